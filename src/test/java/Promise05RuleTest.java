/** Promise 5: rule. */
public final class Promise05RuleTest {
    private static final String[] ONE_OF_EACH = {
        "a;", "var a;", "const a=1;a=a;", "a;let a;", "var a;a;{var b;fn a(){}b;a;}",
        "fn f(){return f;f;}", "1==1;", "let a=1;a;", "if(1){}", ";",
    };

    public static void main(String[] args) {
        Check check = new Check();
        for (int n = 0; n <= 9; n++) {
            oneRule(check, n);
        }
        LintDesk desk = new LintDesk();
        int[] none = {-1, 10, Integer.MIN_VALUE, Integer.MAX_VALUE, 32};
        for (int n : none) {
            check.refused("rule(" + n + ")", IllegalArgumentException.class, () -> desk.rule(n, false));
        }
        for (int n = 0; n <= 9; n++) {
            check.same("rule " + n + " behind what was refused", desk.rule(n, true), true);
        }
        check.end();
    }

    private static void oneRule(Check check, int n) {
        LintDesk desk = Check.reading(ONE_OF_EACH[n]);
        check.same("findings of " + ONE_OF_EACH[n], desk.count(2), 1);
        check.same("their rule", desk.found(0), n);
        check.same("rule " + n + " was on", desk.rule(n, false), true);
        check.same("findings without it", desk.count(2), 0);
        check.refused("found(0) without it", IndexOutOfBoundsException.class, () -> desk.found(0));
        check.same("mend() without it", desk.mend(), 0);
        check.same("rule " + n + " was off", desk.rule(n, false), false);
        check.same("rule " + n + " was still off", desk.rule(n, true), false);
        check.same("findings with it", desk.count(2), 1);
        for (int other = 0; other <= 9; other++) {
            check.same("rule " + other + " is on", desk.rule(other, false), true);
            check.same("findings without rule " + other, desk.count(2), other == n ? 0 : 1);
            desk.rule(other, true);
        }
    }
}
