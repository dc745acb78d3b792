/** Promise 4: wrong, the WRONG PLACE. */
public final class Promise04WrongTest {
    public static void main(String[] args) {
        Check check = new Check();
        latest(check);
        tokens(check);
        statements(check);
        values(check);
        manyTokens(check);
        depths(check);
        check.end();
    }

    private static void latest(Check check) {
        LintDesk desk = new LintDesk();
        Check.wrongPlaceOf(desk, "a b");
        check.same("wrong()", desk.wrong(), 2);
        check.same("wrong() again", desk.wrong(), 2);
        desk.write(Check.octets("a;"));
        desk.mend();
        check.same("wrong() before the next read()", desk.wrong(), 2);
        desk.read();
        check.same("wrong() behind a PROGRAM", desk.wrong(), -1);
    }

    private static void tokens(Check check) {
        check.wrongPlace("a # b", 2);
        check.wrongPlace("a; A", 3);
        check.wrongPlace("a_b;", 1);
        check.wrongPlace("a; 'b", 3);
        check.wrongPlace("'a\n';", 0);
        check.wrongPlace("'a''b';", 3);
        check.wrongPlace("a b #", 2);
        check.wrongPlace("a = = b;", 4);
        check.wrongPlace("a ==== b;", 5);
        check.wrongPlace("a = == b;", 4);
        check.wrongPlace("1a;", 1);
        check.wrongPlace("a > b;", 2);
        check.wrongPlace("\"a\";", 0);
        check.wrongPlace("a  ", 3);
        check.wrongPlace("'", 0);
    }

    private static void statements(Check check) {
        check.wrongPlace("let ;", 4);
        check.wrongPlace("let", 3);
        check.wrongPlace("let let;", 4);
        check.wrongPlace("let 1;", 4);
        check.wrongPlace("let a b;", 6);
        check.wrongPlace("let a = ;", 8);
        check.wrongPlace("let a == 1;", 6);
        check.wrongPlace("let a, b;", 5);
        check.wrongPlace("const c;", 7);
        check.wrongPlace("var a", 5);
        check.wrongPlace("fn (a) {}", 3);
        check.wrongPlace("fn f {}", 5);
        check.wrongPlace("fn f(a,) {}", 7);
        check.wrongPlace("fn f(,a) {}", 5);
        check.wrongPlace("fn f(1) {}", 5);
        check.wrongPlace("fn f(a b) {}", 7);
        check.wrongPlace("fn f(a,b,c,d,e) {}", 12);
        check.wrongPlace("fn f() ;", 7);
        check.wrongPlace("fn f() {", 8);
        check.wrongPlace("}", 0);
        check.wrongPlace("{", 1);
        check.wrongPlace("{ } }", 4);
        check.wrongPlace("return;", 0);
        check.wrongPlace("{ return 1; }", 2);
        check.wrongPlace("fn f() { } return;", 11);
        check.wrongPlace("fn f() { return }", 16);
        check.wrongPlace("if a", 3);
        check.wrongPlace("if ()", 4);
        check.wrongPlace("if (a) let b;", 7);
        check.wrongPlace("if (a) const b=1;", 7);
        check.wrongPlace("if (a) ; else var b;", 14);
        check.wrongPlace("while (a) fn f() {}", 10);
        check.wrongPlace("while (a) @1 @2 let b;", 16);
        check.wrongPlace("if (a) }", 7);
        check.wrongPlace("if (a)", 6);
        check.wrongPlace("else a;", 0);
        check.wrongPlace("if (a) b; else c; else d;", 18);
        check.wrongPlace("if (a) b; ; else c;", 12);
        check.wrongPlace("while () a;", 7);
        check.wrongPlace("@12 a;", 1);
        check.wrongPlace("@00 a;", 1);
        check.wrongPlace("@a;", 1);
        check.wrongPlace("@@1 a;", 1);
        check.wrongPlace("@1", 2);
        check.wrongPlace("@1 }", 3);
        check.wrongPlace("@1 return;", 3);
    }

    private static void values(Check check) {
        check.wrongPlace("a b", 2);
        check.wrongPlace("a", 1);
        check.wrongPlace("a + ;", 4);
        check.wrongPlace("* a;", 0);
        check.wrongPlace("a + b = c;", 6);
        check.wrongPlace("(a) = c;", 4);
        check.wrongPlace("!a = c;", 3);
        check.wrongPlace("1 = c;", 2);
        check.wrongPlace("f() = c;", 4);
        check.wrongPlace("a == b = c;", 7);
        check.wrongPlace("(a;", 2);
        check.wrongPlace("();", 1);
        check.wrongPlace("f(a,);", 4);
        check.wrongPlace("f(,);", 2);
        check.wrongPlace("f(a b);", 4);
        check.wrongPlace("f()();", 3);
        check.wrongPlace("(f)();", 3);
        check.wrongPlace("1(a);", 1);
        check.wrongPlace("a = let;", 4);
        check.wrongPlace("a ! b;", 2);
        check.wrongPlace("a = {};", 4);
        check.wrongPlace("a, b;", 1);
    }

    private static void manyTokens(Check check) {
        check.wrongPlace("a;".repeat(30), -1);
        check.wrongPlace("a;".repeat(30) + "  \n ", -1);
        check.wrongPlace("a;".repeat(30) + " ;", 61);
        check.wrongPlace("a;".repeat(30) + "#", 60);
        check.wrongPlace("a;".repeat(29) + "-a;", 60);
        check.wrongPlace("a;".repeat(29) + "b c d", 60);
        check.wrongPlace("a;".repeat(29) + "b c", 60);
        check.wrongPlace("a;".repeat(29) + ";}a", 59);
        check.wrongPlace("a;".repeat(29) + "a", 59);
    }

    private static void depths(Check check) {
        check.wrongPlace("{".repeat(12) + "}".repeat(12), -1);
        check.wrongPlace("{".repeat(13) + "}".repeat(13), 12);
        check.wrongPlace("{".repeat(12) + ";" + "}".repeat(12), 12);
        check.wrongPlace("{".repeat(11) + "a;" + "}".repeat(11), -1);
        check.wrongPlace("@1".repeat(11) + "a;", -1);
        check.wrongPlace("@1".repeat(12) + "a;", 24);
        check.wrongPlace("@1".repeat(13) + "a;", 24);
        check.wrongPlace("@1".repeat(12), 24);
        check.wrongPlace("!".repeat(11) + "a;", -1);
        check.wrongPlace("!".repeat(12) + "a;", 11);
        check.wrongPlace("-".repeat(12) + "a;", 11);
        check.wrongPlace("(".repeat(11) + "a" + ")".repeat(11) + ";", -1);
        check.wrongPlace("(".repeat(12) + "a" + ")".repeat(12) + ";", 11);
        check.wrongPlace("a=".repeat(11) + "b;", -1);
        check.wrongPlace("a=".repeat(12) + "b;", 24);
        check.wrongPlace("a=".repeat(12) + ";", 24);
        check.wrongPlace("let " + "a=".repeat(11) + "b;", -1);
        check.wrongPlace("let " + "a=".repeat(12) + "b;", 28);
        check.wrongPlace("f(".repeat(12) + ")".repeat(12) + ";", -1);
        check.wrongPlace("f(".repeat(11) + "a" + ")".repeat(11) + ";", -1);
        check.wrongPlace("f(".repeat(12) + "a" + ")".repeat(12) + ";", 24);
        check.wrongPlace("f(".repeat(11) + "f(,)" + ")".repeat(11) + ";", 24);
        check.wrongPlace("f(".repeat(11) + "f(!)" + ")".repeat(11) + ";", 24);
        check.wrongPlace("(".repeat(12) + ")".repeat(12) + ";", 11);
        check.wrongPlace("!".repeat(12) + ";", 11);
        check.wrongPlace("f(1,".repeat(5) + "a" + ")".repeat(5) + ";", -1);
        check.wrongPlace("while(a)".repeat(11) + "b;", -1);
        check.wrongPlace("while(a)".repeat(12) + "b;", 96);
        check.wrongPlace("if(a)".repeat(11) + "b;", -1);
        check.wrongPlace("if(a)".repeat(12) + "b;", 60);
        check.wrongPlace("if(a);else ".repeat(5) + "{{{{{{{b;}}}}}}}", 62);
        check.wrongPlace("if(a);else ".repeat(5) + "{{{{{{b;}}}}}}", -1);
        check.wrongPlace("if(a){}else{while(!a){a=f(!(-b));}}", -1);
        check.wrongPlace("{".repeat(11) + "while(!a)a;" + "}".repeat(11), 17);
        check.wrongPlace("{".repeat(10) + "while(!a)a;" + "}".repeat(10), -1);
        check.wrongPlace("fn f(){".repeat(7) + "{{{{a=b;}}}}" + "}".repeat(7), 55);
        check.wrongPlace("fn f(){".repeat(8) + "return!!!!!a;" + "}".repeat(8), 65);
        check.wrongPlace("fn f(){".repeat(7) + "{{{{if(a){}}}}}" + "}".repeat(7), 58);
        check.wrongPlace("{".repeat(11) + "!a;" + "}".repeat(11), 11);
        check.wrongPlace("{".repeat(11) + "f();" + "}".repeat(11), -1);
        check.wrongPlace("{".repeat(11) + "f(a);" + "}".repeat(11), 13);
        check.wrongPlace("{".repeat(11) + "a=b;" + "}".repeat(11), 13);
        check.wrongPlace("{".repeat(11) + "let a=b;" + "}".repeat(11), 17);
        check.wrongPlace("{".repeat(11) + "let a;" + "}".repeat(11), -1);
        check.wrongPlace("{".repeat(11) + "fn f(a){}" + "}".repeat(11), -1);
        check.wrongPlace("{".repeat(11) + "fn f(a){;}" + "}".repeat(11), 19);
        check.wrongPlace("{".repeat(11) + "while(a);" + "}".repeat(11), 19);
        check.wrongPlace("{".repeat(11) + "a+b<c;" + "}".repeat(11), -1);
    }
}
