/** Promise 9: mend. */
public final class Promise09MendTest {
    public static void main(String[] args) {
        Check check = new Check();
        things(check);
        rounds(check);
        chosen(check);
        length(check);
        state(check);
        check.end();
    }

    private static void things(Check check) {
        check.mends("", "", 0, 0);
        check.mends("1 == 2;", "1 === 2;", 1, 1);
        check.mends("1==2==3;", "1===2===3;", 2, 1);
        check.mends("let a = 1; a;", "const a = 1; a;", 1, 1);
        check.mends("a;;b;", "a;b;", 1, 1);
        check.mends("a; { \n } b;", "a;  b;", 1, 1);
        check.mends("let a = 1;\nfn f(x, y) { return y == a; ; b; }",
                "const a = 1;\nfn f(x, y) { return y === a;  b; }", 3, 1);
        check.mends("@7let a=1;let b=2;{}", "@7let a=1;const b=2;", 2, 1);
        check.mends("fn f() { {} ; }", "fn f() {   }", 2, 1);
    }

    private static void rounds(Check check) {
        check.mends("{ { ; } } if (a) ; else { }", " if (a) ; else { }", 3, 3);
        check.mends("{{{}}}", "", 3, 3);
        check.mends("{{{{}}}}", "", 4, 4);
        check.mends("{{{{{}}}}}", "{}", 4, 4);
        check.mends("{{{{{;}}}}}", "{{}}", 4, 4);
        check.mends("{;}{}", "", 3, 2);
        check.mends("let a = 1; { a; ; } ;", "const a = 1; { a;  } ", 3, 1);
        LintDesk desk = Check.reading("{{{{{}}}}}");
        desk.mend();
        check.same("a second mend()", desk.mend(), 1);
        check.same("its rounds", desk.count(6), 1);
        check.same("a third mend()", desk.mend(), 0);
        check.same("no rounds", desk.count(6), 0);
    }

    private static void chosen(Check check) {
        check.mends("if (1) {} else {}", "if (1) {} else {}", 0, 0);
        check.mends("while (1) { ; }", "while (1) {  }", 1, 1);
        check.mends("@1 {}", "@1 {}", 0, 0);
        check.mends("@8 {}", "@8 {}", 0, 0);
        check.mends("@9 { ; }", "@9 { ; }", 0, 0);
        check.mends("@8 { {} }", "@8 { {} }", 0, 0);
        check.mends("@1 { {} ; }", "@1 {   }", 2, 1);
        check.mends("@6 (1 == 2); 1 == 2;", "@6 (1 == 2); 1 === 2;", 1, 1);
        check.mends("@7 let a = 1; a;", "@7 let a = 1; a;", 0, 0);
        check.mends("if (1) ; else ;", "if (1) ; else ;", 0, 0);
        LintDesk desk = Check.reading("let a = 1 == 2; ; {}");
        desk.rule(9, false);
        desk.rule(6, false);
        check.same("mend() without 6 and 9", desk.mend(), 2);
        check.same("what it is then", Check.text(desk), "const a = 1 == 2; ; ");
    }

    private static void length(Check check) {
        String like = "1==2;";
        String full = like + " ".repeat(154) + ";";
        check.same("length", full.length(), 160);
        check.mends(full, "1===2;" + " ".repeat(154), 2, 1);
        check.mends(like + " ".repeat(155), like + " ".repeat(155), 0, 0);
        check.mends(like + " ".repeat(154), "1===2;" + " ".repeat(154), 1, 1);
        String let = "let a=1;a;" + " ".repeat(149);
        check.mends(let, let, 0, 0);
        check.mends(let + ";", let + ";", 0, 0);
        String tight = "let a=1;a;" + " ".repeat(148) + ";;";
        check.mends(tight, "const a=1;a;" + " ".repeat(148), 3, 1);
        String later = "let a=1;a;" + " ".repeat(146) + "{{}}";
        check.mends(later, "const a=1;a;" + " ".repeat(146), 3, 2);
        LintDesk desk = Check.reading(let);
        desk.mend();
        check.same("a round that is not done counts for none", desk.count(6), 0);
        check.same("its finding stays", Check.findings(desk), "7@0");
    }

    private static void state(Check check) {
        LintDesk desk = Check.reading("let a = 1; b == a; ;");
        desk.write(Check.octets("x ="));
        check.same("mend()", desk.mend(), 3);
        check.same("the written text stays", desk.count(8), 3);
        check.same("wrong()", desk.wrong(), -1);
        check.same("findings", Check.findings(desk), "0@13");
        check.same("things", Check.thing(desk, 0), "6 1 1 1 1 0");
        check.same("tokens", desk.count(1), 9);
        check.same("letters", desk.count(0), 22);
        desk.write(Check.octets("1;"));
        check.same("read() behind mend()", desk.read(), 1);
        check.same("rounds stay behind read()", desk.count(6), 1);
        Check.wrongPlaceOf(desk, "a b");
        desk.mend();
        check.same("wrong() stays behind mend()", desk.wrong(), 2);
    }
}
