import java.util.List;

/** Promise 11: declared, SCOPES, USES and KINDS. */
public final class Promise11DeclaredTest {
    public static void main(String[] args) {
        Check check = new Check();
        kinds(check);
        uses(check);
        scopes(check);
        again(check);
        refusals(check);
        check.end();
    }

    private static void things(Check check, String source, String... want) {
        LintDesk desk = Check.reading(source);
        check.same("things of " + source, Check.things(desk), List.of(want));
    }

    private static void kinds(Check check) {
        things(check, "let a; const b = 1; var c; fn d(e) {}",
                "4 0 0 0 1 0", "13 1 0 1 1 0", "24 2 0 0 1 0", "30 3 0 0 1 0", "32 4 0 0 1 1");
        things(check, "a; f(b = c);");
    }

    private static void uses(Check check) {
        things(check, "let a = 1; a; a = 2; f(a, a = a);", "4 0 3 3 1 0");
        things(check, "var a = a; a == (a = 1);", "4 2 2 2 1 0");
        things(check, "fn f() { f(f); f = 1; }", "3 3 2 1 1 0");
        things(check, "let a; { a; let a; a = 1; }", "4 0 0 0 1 0", "16 0 1 1 1 1");
        things(check, "let a; { { let a; } a; } a;", "4 0 2 0 1 0", "15 0 0 0 1 2");
        things(check, "a; a = 1; var a;", "14 2 1 1 1 0");
        things(check, "let abcdefghij; abcdefghi; abcdefghijk; abcdefghij;", "4 0 1 0 1 0");
    }

    private static void scopes(Check check) {
        things(check, "{ var a; let b; }", "6 2 0 0 1 0", "13 0 0 0 1 1");
        things(check, "fn f() { { { var a; } a; } }", "3 3 0 0 1 0", "17 2 1 0 1 1");
        things(check, "{ fn f(a) { fn g(b) { let c; } } }",
                "5 3 0 0 1 1", "7 4 0 0 1 2", "15 3 0 0 1 2", "17 4 0 0 1 3", "26 0 0 0 1 3");
        things(check, "{ let a = 1; { var a = 2; } a; } a;", "6 0 1 1 1 1", "19 2 1 1 1 0");
        things(check, "fn f(a) { var a = 1; { var a = 2; } a; }", "3 3 0 0 1 0", "5 4 1 2 3 1");
    }

    private static void again(Check check) {
        things(check, "let a; const a = 1; var a; fn a() {}", "4 0 0 1 4 0");
        things(check, "fn f(a, b, a) { let b = a; }", "3 3 0 0 1 0", "5 4 1 0 2 1", "8 4 0 1 2 1");
        things(check, "{ var a; } let a = 1; a = 2;", "6 2 0 2 2 0");
    }

    private static void refusals(Check check) {
        LintDesk desk = Check.reading("let a;");
        int[] noThings = {1, -1, Integer.MIN_VALUE, Integer.MAX_VALUE};
        for (int k : noThings) {
            check.refused("declared(" + k + ", 0)", IndexOutOfBoundsException.class,
                    () -> desk.declared(k, 0));
            check.refused("declared(" + k + ", 6)", IndexOutOfBoundsException.class,
                    () -> desk.declared(k, 6));
        }
        int[] noWhats = {6, -1, Integer.MIN_VALUE, Integer.MAX_VALUE};
        for (int what : noWhats) {
            check.refused("declared(0, " + what + ")", IllegalArgumentException.class,
                    () -> desk.declared(0, what));
        }
    }
}
