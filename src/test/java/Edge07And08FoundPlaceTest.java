/** The edges of promises 7 and 8: no such FINDING, and the first and last thing each RULE finds or not. */
public final class Edge07And08FoundPlaceTest {
    public static void main(String[] args) {
        Check check = new Check();
        thereIsNone(check);
        most(check);
        firstAndLastPlace(check);
        byPlacesThenRules(check);
        free(check);
        unused(check);
        laterParameters(check);
        constant(check);
        early(check);
        shadow(check);
        again(check);
        dead(check);
        equal(check);
        fixed(check);
        empty(check);
        spare(check);
        reachOfExcuses(check);
        ruleOfExcuses(check);
        check.end();
    }

    private static void noFinding(Check check, LintDesk desk, int k) {
        check.refused("found(" + k + ")", IndexOutOfBoundsException.class, () -> desk.found(k));
        check.refused("place(" + k + ")", IndexOutOfBoundsException.class, () -> desk.place(k));
    }

    /** "there is none" */
    private static void thereIsNone(Check check) {
        String[] sources = {"", "1;", "a;", "a;b;", ";;;", "{}".repeat(30)};
        for (String source : sources) {
            LintDesk desk = Check.reading(source);
            int size = desk.count(2);
            int[] none = {-1, size, size + 1, Integer.MIN_VALUE, Integer.MAX_VALUE};
            for (int k : none) {
                noFinding(check, desk, k);
            }
            if (size > 0) {
                check.same("the first place of " + source, desk.place(0), 0);
                check.same("the last finding of " + source, desk.found(size - 1) >= 0, true);
            }
        }
        LintDesk desk = Check.reading("a;;");
        check.same("found(1)", desk.found(1), 9);
        desk.rule(9, false);
        noFinding(check, desk, 1);
        check.same("found(0)", desk.found(0), 0);
        desk.give('a');
        noFinding(check, desk, 0);
        desk.rule(9, true);
        check.same("found(0) when RULE 9 is ON again", desk.found(0), 9);
    }

    /** Many in one SOURCE: each of them, in order. */
    private static void most(Check check) {
        LintDesk desk = Check.reading(";".repeat(60));
        check.same("findings", desk.count(2), 60);
        for (int k = 0; k < 60; k++) {
            check.same("found(" + k + ")", desk.found(k), 9);
            check.same("place(" + k + ")", desk.place(k), k);
        }
        noFinding(check, desk, 60);
        LintDesk two = Check.reading("fn f(){" + "return;".repeat(21) + "}f;");
        check.same("findings of a row of returns", two.count(2), 20);
        check.same("the last one", two.place(19), 7 * 21);
    }

    /** "places are numbers of LETTERS in it, from 0" */
    private static void firstAndLastPlace(Check check) {
        check.finds("a;" + " ".repeat(157) + ";", "0@0 9@159");
        check.finds(" ".repeat(158) + "{}", "8@158");
    }

    /** "by places, at one place by RULES" */
    private static void byPlacesThenRules(Check check) {
        check.finds("a=1;const a=a;", "2@0 3@0");
        check.finds("fn f(){return f;;}", "5@16 9@16");
        check.finds("fn f(){return f;{}}", "5@16 8@16");
        check.finds("fn f(){return f;let b=1;}", "5@16 7@16 1@20");
        check.finds("fn f(){return f;a;}", "0@16 5@16");
        check.finds("let a;a;{let a;}", "1@13 4@13");
    }

    /** 0 */
    private static void free(Check check) {
        check.finds("a;", "0@0");
        check.finds("var a;a;", "");
        check.finds("a=1;", "0@0");
        check.finds("a();", "0@0");
        check.finds("{let a;a;}a;", "0@10");
        check.finds("{var a;}a;", "");
        check.finds("fn f(a){a;}f;a;", "0@13");
        check.finds("fn f(){var a;a;}f;a;", "0@18");
        LintDesk desk = Check.reading("a;a=1;a();");
        check.same("before a is GIVEN", desk.count(2), 3);
        desk.give('a');
        check.same("every USE of it", desk.count(2), 0);
    }

    /** 1 "what is DECLARED and never READ" */
    private static void unused(Check check) {
        check.finds("var a;", "1@4");
        check.finds("var a;a=1;", "1@4");
        check.finds("var a;a;", "");
        check.finds("var a=a;", "");
        check.finds("var a;var a;", "1@4");
        check.finds("a;var a;", "");
        check.finds("fn f(){}", "1@3");
        check.finds("fn f(){f;}", "");
        check.finds("fn f(){}f();", "");
        check.finds("var a;{let a;a;}", "1@4 4@11");
    }

    /** "PARAMETERS only if no later one of the fn is READ" */
    private static void laterParameters(Check check) {
        check.finds("fn f(a){}f;", "1@5");
        check.finds("fn f(a){a;}f;", "");
        check.finds("fn f(a,b,c,d){d;}f;", "");
        check.finds("fn f(a,b,c,d){c;}f;", "1@11");
        check.finds("fn f(a,b,c,d){a;}f;", "1@7 1@9 1@11");
        check.finds("fn f(a,b,c,d){d=1;}f;", "1@5 1@7 1@9 1@11");
        check.finds("fn f(a){fn g(b){b;}g;}f;", "1@5");
        check.finds("fn f(a){var b;b;}f;", "1@5");
        check.finds("fn f(a){}fn g(b){b;}f;g;", "1@5");
        check.finds("fn f(a,b){fn g(b){b;}g;}f;", "1@5 1@7 4@15");
    }

    /** 2 "a "=" in a VALUE that WRITES a const ... (not that of let, const, var)" */
    private static void constant(Check check) {
        check.finds("const a=1;a;", "");
        check.finds("const a=1;a=2;a;", "2@10");
        check.finds("const a=1;a=a=2;a;", "2@10 2@12");
        check.finds("const a=1;const a=2;a;", "4@16");
        check.finds("const a=1;var a=2;a;", "4@14");
        check.finds("let a;const a=1;a=2;a;", "4@12");
        check.finds("const a=1;{var b;b=a;b;}", "");
        check.finds("const a=1;fn f(a){a=a;}f;a;", "4@15");
    }

    /** 3 "in front of its (first) NAME, and in no fn that is within the SCOPE of that" */
    private static void early(Check check) {
        check.finds("a;let a;", "3@0");
        check.finds("let a;a;", "");
        check.finds("let a=a+1;a=1;", "");
        check.finds("a;const a=1;", "3@0");
        check.finds("a;var a;", "");
        check.finds("a;fn a(){}", "");
        check.finds("a=1;let a;a;", "3@0");
        check.finds("a;let a;let a;", "3@0 4@12");
        check.finds("let a;a;let a;", "4@12");
        check.finds("{a;}let a;", "3@1");
        check.finds("fn f(){a;}let a;f;", "");
        check.finds("fn f(){a;let a;}f;", "3@7");
        check.finds("fn f(){{a;}let a;}f;", "3@8");
        check.finds("{fn f(){a;}let a;f;}", "");
        check.finds("fn f(){fn g(){a;}let a;g;}f;", "");
        check.finds("fn f(){a;}f;{let a;a;}", "0@7");
    }

    /** 4 "what is DECLARED (first) in a SCOPE, if something of the same NAME is DECLARED in one around it" */
    private static void shadow(Check check) {
        check.finds("var a;a;{let a;a;}", "4@13");
        check.finds("{let a;a;}var a;a;", "4@5");
        check.finds("{let a;a;}{let a;a;}", "");
        check.finds("var a;a;{{{let a;a;}}}", "4@15");
        check.finds("var a;a;{let a;a;{let a;a;}}", "4@13 4@22");
        check.finds("fn f(f){f;}f;", "4@5");
        check.finds("{fn f(){var a;a;}f;}var a;a;", "4@12");
        check.finds("a;{let a;a;}", "0@0");
    }

    /** "AGAIN ...: where a NAME is DECLARED again in the same SCOPE (PARAMETERS, too; var again for a var: not)" */
    private static void again(Check check) {
        check.finds("var a;var a;a;", "");
        check.finds("var a;{var a;}a;", "");
        check.finds("var a;let a;a;", "4@10");
        check.finds("let a;var a;a;", "4@10");
        check.finds("let a;let a;let a;a;", "4@10 4@16");
        check.finds("fn f(a,a){a;}f;", "4@7");
        check.finds("fn f(a){var a;a;}f;", "4@12");
        check.finds("fn f(){}fn f(){}f;", "4@11");
        check.finds("var a;a;{let a;let a;a;}", "4@13 4@19");
        check.finds("fn f(){let f;f;}f;", "4@11");
    }

    /** 5 "one directly behind a return (with EXCUSES in front or not)" */
    private static void dead(Check check) {
        check.finds("fn f(){return f;}", "");
        check.finds("fn f(){return f;1;}", "5@16");
        check.finds("fn f(){return f;1;2;}", "5@16");
        check.finds("fn f(){1;return f;}", "");
        check.finds("fn f(){@1 return f;1;}", "5@19");
        check.finds("fn f(){@1@2 return f;@3@4 1;}", "5@26");
        check.finds("fn f(){{return f;}1;}", "");
        check.finds("fn f(){if(1)return f;1;}", "");
        check.finds("fn f(){@1{return f;}1;}", "");
        check.finds("fn f(){{return f;1;}}", "5@17");
        check.finds("fn f(){return f;}1;", "");
        check.finds("fn f(){return f;return;}", "5@16");
    }

    /** 6 */
    private static void equal(Check check) {
        check.finds("1==2;", "6@1");
        check.finds("1===2;", "");
        check.finds("'==';", "");
        check.finds("1==2==3===4;", "6@1 6@4");
    }

    /** 7 "a let with a VALUE, DECLARED once, that nothing else WRITES" */
    private static void fixed(Check check) {
        check.finds("let a=1;a;", "7@0");
        check.finds("let a;a;", "");
        check.finds("let a=1;a=2;a;", "");
        check.finds("let a=1;let a;a;", "4@12");
        check.finds("let a=1;var a;a;", "4@12");
        check.finds("var a=1;a;", "");
        check.finds("const a=1;a;", "");
        check.finds("let a;a=1;a;", "");
        check.finds("let a=a=1;", "1@4");
        check.finds("let a=1;fn f(){a=2;}f;a;", "");
        check.finds("let a=1;{let a;a=2;a;}a;", "7@0 4@13");
    }

    /** 8 "a BLOCK without STATEMENTS that is not that of a fn" */
    private static void empty(Check check) {
        check.finds("{}", "8@0");
        check.finds("{\n}", "8@0");
        check.finds("{1;}", "");
        check.finds("{{}}", "8@1");
        check.finds("{;}", "9@1");
        check.finds("fn f(){}f;", "");
        check.finds("fn f(){{}}f;", "8@7");
        check.finds("if(1){}else{}", "8@5 8@11");
        check.finds("while(1){}", "8@8");
        check.finds("@1{}", "8@2");
    }

    /** 9 "";" alone in the STATEMENTS of a PROGRAM, fn or BLOCK (not behind an EXCUSE)" */
    private static void spare(Check check) {
        check.finds(";", "9@0");
        check.finds("1;", "");
        check.finds("1;;", "9@2");
        check.finds("{;}", "9@1");
        check.finds("fn f(){;}f;", "9@7");
        check.finds("@1;", "");
        check.finds("@1;;", "9@3");
        check.finds("if(1);", "");
        check.finds("if(1);;", "9@6");
        check.finds("if(1);else;", "");
        check.finds("while(1);", "");
    }

    /** "from its first LETTER behind the NUMBER to its last one" */
    private static void reachOfExcuses(Check check) {
        check.finds("a;@0a;a;", "0@0 0@6");
        check.finds("@0 a+b;c;", "0@7");
        check.finds("@9{;};", "9@5");
        check.finds("@9{{;};};", "9@8");
        check.finds("@0if(a)b;else c;d;", "0@16");
        check.finds("if(a)@0b;else c;", "0@3 0@14");
        check.finds("@0while(a)b;c;", "0@12");
        check.finds("@1fn f(a){}fn g(){}", "1@14");
        check.finds("@7@1let a=1;", "");
        check.finds("fn f(){return f;@5;}", "");
        check.finds("fn f(){return f;@5;;}", "9@19");
        check.finds("fn f(){@5return f;;}", "5@18 9@18");
        check.finds("@4{let a;a;}{let a;a;}var a;a;", "4@17");
        check.finds("@1{var a;}", "");
        check.finds("var a;@1{var a;}", "1@4");
    }

    /** "of RULE n is nothing found": of the others all */
    private static void ruleOfExcuses(Check check) {
        for (int n = 0; n <= 9; n++) {
            LintDesk desk = Check.reading("@" + n + "{a==1;;let b=1;{}}");
            String all = "0@3 6@4 9@8 7@9 1@13 8@17";
            check.same("findings with @" + n, Check.findings(desk), without(all, n));
            check.same("excused with @" + n, desk.count(9), all.contains(n + "@") ? 1 : 0);
        }
        check.finds("@0@6@9@7@1@8{a==1;;let b=1;{}}", "");
        check.finds("@0@0{a;}", "");
    }

    private static String without(String findings, int rule) {
        StringBuilder left = new StringBuilder();
        for (String finding : findings.split(" ")) {
            if (!finding.startsWith(rule + "@")) {
                left.append(left.length() == 0 ? "" : " ").append(finding);
            }
        }
        return left.toString();
    }
}
