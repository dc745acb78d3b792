/** Promise 12: count. */
public final class Promise12CountTest {
    public static void main(String[] args) {
        Check check = new Check();
        LintDesk desk = Check.reading("let a = 'x y';\n@0 { b; c; }{{;}} fn f(q) { b == 12; } ");
        desk.give('c');
        desk.write(Check.octets("abc"));
        counts(check, "before mend()", desk, 54, 29, 7, 3, 5, 3, 0, 1, 3, 1);
        desk.mend();
        counts(check, "behind mend()", desk, 52, 24, 4, 3, 3, 3, 3, 1, 3, 1);
        int[] none = {-1, 10, Integer.MIN_VALUE, Integer.MAX_VALUE};
        for (int what : none) {
            check.refused("count(" + what + ")", IllegalArgumentException.class, () -> desk.count(what));
        }
        mostTokens(check);
        check.end();
    }

    private static void counts(Check check, String when, LintDesk desk, int... want) {
        for (int what = 0; what < want.length; what++) {
            check.same("count(" + what + ") " + when, desk.count(what), want[what]);
        }
    }

    private static void mostTokens(Check check) {
        LintDesk blocks = Check.reading("{}".repeat(30));
        check.same("60 tokens", blocks.count(1), 60);
        check.same("31 scopes", blocks.count(4), 31);
        check.same("30 findings", blocks.count(2), 30);
        LintDesk uses = Check.reading("a==a*a-a+a<a===".repeat(4) + "a;");
        check.same("free uses", uses.count(5), 25);
    }
}
