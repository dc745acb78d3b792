/** The edges of promise 9: nothing to mend, up to 4 ROUNDS, and no SOURCE of more than 160 LETTERS. */
public final class Edge09MendTest {
    public static void main(String[] args) {
        Check check = new Check();
        nothingToMend(check);
        whatIsMended(check);
        upToFourRounds(check);
        roundsOfTheLatest(check);
        upToLongest(check);
        allAtOnceOrNone(check);
        notDone(check);
        asItIsThen(check);
        check.end();
    }

    private static void stays(Check check, String source) {
        check.mends(source, source, 0, 0);
    }

    /** "As long as there are such FINDINGS" */
    private static void nothingToMend(Check check) {
        stays(check, "");
        stays(check, " \n");
        stays(check, "a;");
        stays(check, "let a;");
        stays(check, "const a=1;a=2;");
        stays(check, "fn f(a,a){return;1;}");
        stays(check, "1===2;");
        LintDesk desk = new LintDesk();
        check.same("mend() of a new one", desk.mend(), 0);
        check.same("its rounds", desk.count(6), 0);
        check.same("mend() again", desk.mend(), 0);
    }

    /** What of each RULE is mended, and what next to it is not. */
    private static void whatIsMended(Check check) {
        check.mends("1==2;", "1===2;", 1, 1);
        check.mends("let a=1;", "const a=1;", 1, 1);
        stays(check, "let a=1;a=2;");
        check.mends(";", "", 1, 1);
        stays(check, "@1;");
        stays(check, "if(a);else;");
        check.mends("{}", "", 1, 1);
        check.mends("a;{ \n }b;", "a;b;", 1, 1);
        check.mends("{{}1;}", "{1;}", 1, 1);
        check.mends("fn f(){{}}", "fn f(){}", 1, 1);
        stays(check, "fn f(){}");
        stays(check, "@1{}");
        stays(check, "if(a){}else{}");
        stays(check, "while(a){}");
        stays(check, "while(a)@1{}");
        stays(check, "@6 1==2;");
        stays(check, "@7let a=1;");
        stays(check, "@9{;}");
        stays(check, "@8{{}}");
        check.mends("@8{;}", "@8{}", 1, 1);
        check.mends("@9{{}}", "@9{}", 1, 1);
        check.mends("@7{1==2;}", "@7{1===2;}", 1, 1);
    }

    /** "there are ROUNDS, up to 4" */
    private static void upToFourRounds(Check check) {
        check.mends("{{}}", "", 2, 2);
        check.mends("{{{}}}", "", 3, 3);
        check.mends("{{{{}}}}", "", 4, 4);
        check.mends("{{{{{}}}}}", "{}", 4, 4);
        check.mends("{{{;}}}", "", 4, 4);
        check.mends("{{{{;}}}}", "{}", 4, 4);
        check.mends("{".repeat(12) + "}".repeat(12), "{".repeat(8) + "}".repeat(8), 4, 4);
        check.mends("if(a){{{{{}}}}}", "if(a){}", 4, 4);
        check.mends("{{{{{}}}}}{};", "{}", 6, 4);
        check.mends("{}".repeat(30), "", 30, 1);
        check.mends(";".repeat(60), "", 60, 1);
    }

    /** count(6): "ROUNDS of the latest mend()" */
    private static void roundsOfTheLatest(Check check) {
        LintDesk desk = Check.reading("{{{{{{}}}}}}");
        check.same("the first mend()", desk.mend(), 4);
        check.same("its rounds", desk.count(6), 4);
        check.same("the second mend()", desk.mend(), 2);
        check.same("its rounds", desk.count(6), 2);
        Check.read(desk, "{{}}");
        check.same("rounds behind read()", desk.count(6), 2);
        Check.wrongPlaceOf(desk, "}");
        check.same("rounds behind a refused read()", desk.count(6), 2);
        desk.mend();
        desk.mend();
        check.same("rounds of one with nothing to mend", desk.count(6), 0);
    }

    private static String padded(String source, int size) {
        return source + " ".repeat(size - source.length());
    }

    /** "one that would make the SOURCE longer than 160 LETTERS is not done" */
    private static void upToLongest(Check check) {
        check.mends(padded("1==2;", 158), padded("1===2;", 159), 1, 1);
        check.mends(padded("1==2;", 159), padded("1===2;", 160), 1, 1);
        stays(check, padded("1==2;", 160));
        check.mends(padded("let a=1;", 158), padded("const a=1;", 160), 1, 1);
        stays(check, padded("let a=1;", 159));
        stays(check, padded("let a=1;", 160));
        check.mends(padded("1==2==3;", 158), padded("1===2===3;", 160), 2, 1);
        stays(check, padded("1==2==3;", 159));
        check.mends(padded(";", 160), padded("", 159), 1, 1);
        check.mends(padded("{}", 160), padded("", 158), 1, 1);
    }

    /** "all these are done at once": what is left out makes room for what comes to it, or none is done. */
    private static void allAtOnceOrNone(Check check) {
        check.mends(padded("1==2;;", 160), padded("1===2;", 160), 2, 1);
        check.mends(padded(";1==2;", 160), padded("1===2;", 160), 2, 1);
        stays(check, padded("1==2==3;;", 160));
        check.mends(padded("1==2==3;;", 159), padded("1===2===3;", 160), 3, 1);
        check.mends(padded("let a=1;{}", 160), padded("const a=1;", 160), 2, 1);
        check.mends(padded("let a=1;;;", 160), padded("const a=1;", 160), 3, 1);
        stays(check, padded("let a=1;;", 160));
        check.mends(padded("let a=1;{ }", 160), padded("const a=1;", 159), 2, 1);
        stays(check, padded("let a=1;{{1;};}", 160));
        // The outer BLOCK is empty only in the next ROUND: it makes no room in this one.
        stays(check, padded("let a=1;1==2;{{}}", 160));
        check.mends(padded("let a=1;{{}}", 160), padded("const a=1;", 158), 3, 2);
    }

    /** "and is the last": nothing is mended, not even what would fit. */
    private static void notDone(Check check) {
        String source = padded("let a=1;;", 160);
        LintDesk desk = Check.reading("{{}}");
        desk.mend();
        Check.read(desk, source);
        check.same("mend()", desk.mend(), 0);
        check.same("rounds", desk.count(6), 0);
        check.same("findings", Check.findings(desk), "7@0 1@4 9@8");
        check.same("mend() again", desk.mend(), 0);
        desk.rule(7, false);
        check.same("mend() without RULE 7", desk.mend(), 1);
        check.same("rounds then", desk.count(6), 1);
        check.same("letters then", desk.count(0), 159);
        desk.rule(7, true);
        check.same("161 again", desk.mend(), 0);
        check.same("none of them", desk.count(6), 0);
    }

    /** What is mended is the SOURCE, as if it had been read, but that wrong() and the written text stay. */
    private static void asItIsThen(Check check) {
        LintDesk desk = new LintDesk();
        Check.read(desk, "let a=b==1;{;}fn f(){return;;a;}");
        Check.wrongPlaceOf(desk, "a b");
        Check.write(desk, "xyz");
        check.same("mend()", desk.mend(), 5);
        String mended = "const a=b===1;fn f(){return;a;}";
        check.same("the SOURCE", Check.text(desk), mended);
        check.same("what it tells", Check.stateOfSource(desk), Check.stateOfSource(Check.reading(mended)));
        check.same("wrong()", desk.wrong(), 2);
        check.same("written", desk.count(8), 3);
    }
}
