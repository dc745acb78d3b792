/** Promise 1: an empty SOURCE, that was read; all RULES ON; nothing GIVEN. */
public final class Promise01NewObjectTest {
    public static void main(String[] args) {
        Check check = new Check();
        LintDesk desk = new LintDesk();
        check.same("wrong()", desk.wrong(), -1);
        for (int what = 0; what <= 9; what++) {
            check.same("count(" + what + ")", desk.count(what), what == 4 ? 1 : 0);
        }
        for (int n = 0; n <= 9; n++) {
            check.same("rule(" + n + ", true)", desk.rule(n, true), true);
        }
        check.refused("found(0)", IndexOutOfBoundsException.class, () -> desk.found(0));
        check.refused("letter(0)", IndexOutOfBoundsException.class, () -> desk.letter(0));
        check.refused("declared(0, 0)", IndexOutOfBoundsException.class, () -> desk.declared(0, 0));
        check.same("mend()", desk.mend(), 0);
        check.same("read() of nothing", desk.read(), 0);
        twoObjectsShareNothing(check);
        check.end();
    }

    private static void twoObjectsShareNothing(Check check) {
        LintDesk one = Check.reading("a;");
        one.give(Check.octets("b"));
        one.rule(1, false);
        LintDesk other = new LintDesk();
        check.same("letters of another", other.count(0), 0);
        check.same("given of another", other.count(7), 0);
        check.same("rule 1 of another", other.rule(1, true), true);
    }
}
