/** Promise 3: read, and what is a PROGRAM. */
public final class Promise03ReadTest {
    private static final String[] PROGRAMS = {
        "", " \n ", ";", "let a;", "let a=1;", "var a;", "var a = b;", "const a = 1;",
        "fn f(){}", "fn f(a){return;}", "fn f(a,b,c,d){return a;}", "{}", "{{}{;}}",
        "if(a)b;", "if(a)b;else c;", "if(a)if(b)c;else d;else e;", "if (a) {} else {}",
        "while(a)b;", "while(a);", "a=b=c;", "a==b===c<d+e-f*g;", "!a;", "-a;", "!-!a;", "(a);",
        "f();", "f(a);", "f(a,b=c,(d),5);", "f(f(f()));", "'';", "'a b\"#{';", "007;", "a1b2;",
        "@1 a;", "@0@9 let a;", "@ 3 {}", "if(a)@1@2 b;", "while(a)@1{let b;}", "let lets=constant;",
        "1+-2;", "a- -b;", "a--b;", "fn f(){if(a)return;while(b)return b;{return(1);}}",
        "fn f(){fn g(){return;}return;}", "if(a){fn g(){return;}}", "a<!b;", "elsea;", "a\n=\n1\n;",
        "if(a=b)c;", "a==(b=c);", "a===!b;",
    };

    public static void main(String[] args) {
        Check check = new Check();
        for (String program : PROGRAMS) {
            check.same("the wrong place of " + program,
                    Check.wrongPlaceOf(new LintDesk(), program), -1);
        }
        answersFindings(check);
        staysWhenWrong(check);
        readsAnew(check);
        check.end();
    }

    private static void answersFindings(Check check) {
        LintDesk desk = new LintDesk();
        check.same("read()", Check.read(desk, "let a = b;"), 3);
        check.same("count(2)", desk.count(2), 3);
        check.same("read() of nothing", desk.read(), 0);
        check.same("the empty source", desk.count(0), 0);
        desk.rule(0, false);
        check.same("read() without rule 0", Check.read(desk, "let a = b;"), 2);
    }

    /** Nothing of a source, read or refused, is left behind in a later one. */
    private static void readsAnew(Check check) {
        String[] before = {
            "let a = 1; a;", "@1 @8 { } @7 @0 { let a = b; }", "{} {} {} {}", "fn f(a) { fn g() { return; ; } }",
            "{ { { let a = 1; fn f(a) { #", "const a = 1; a = 1; a = 1; a", "@0 @1 @7 @8 { {} {} #",
        };
        String[] later = {
            "let a; a = 1; a;", "while (1) {} a;", "if (1) {} else {}", "a == b; {}", "let a; { let a = 1; }",
        };
        for (String former : before) {
            for (String source : later) {
                LintDesk desk = new LintDesk();
                Check.wrongPlaceOf(desk, former);
                Check.wrongPlaceOf(desk, former);
                Check.read(desk, source);
                LintDesk fresh = Check.reading(source);
                check.same("findings of " + source + " behind " + former,
                        Check.findings(desk), Check.findings(fresh));
                check.same("things of it", Check.things(desk), Check.things(fresh));
                check.same("mend() of it", desk.mend(), fresh.mend());
                check.same("what it is then", Check.text(desk), Check.text(fresh));
                for (int what = 0; what <= 9; what++) {
                    check.same("count(" + what + ") of it", desk.count(what), fresh.count(what));
                }
            }
        }
    }

    private static void staysWhenWrong(Check check) {
        LintDesk desk = Check.reading("let a = b; fn f(c) { c; }");
        String findings = Check.findings(desk);
        String thing = Check.thing(desk, 2);
        desk.write(Check.octets("{ x;"));
        check.refused("read() of no PROGRAM", IllegalArgumentException.class, desk::read);
        check.same("the written text is empty", desk.count(8), 0);
        check.same("the source stays", Check.text(desk), "let a = b; fn f(c) { c; }");
        check.same("its findings stay", Check.findings(desk), findings);
        check.same("its things stay", Check.thing(desk, 2), thing);
        check.same("its scopes stay", desk.count(4), 2);
        check.same("its tokens stay", desk.count(1), 14);
        check.same("its free uses stay", desk.count(5), 1);
        check.same("it is mended", desk.mend(), 1);
        check.same("what it is then", Check.text(desk), "const a = b; fn f(c) { c; }");
    }
}
