/** The edges of promise 1: what a new object is before anything was written, read, given or mended. */
public final class Edge01NewObjectTest {
    public static void main(String[] args) {
        Check check = new Check();
        emptySource(check);
        thatWasRead(check);
        allRulesOn(check);
        nothingGiven(check);
        check.end();
    }

    /** "An empty SOURCE" */
    private static void emptySource(Check check) {
        LintDesk desk = new LintDesk();
        check.same("letters", desk.count(0), 0);
        check.same("tokens", desk.count(1), 0);
        check.same("findings", desk.count(2), 0);
        check.same("things", desk.count(3), 0);
        check.same("the PROGRAM is a SCOPE", desk.count(4), 1);
        check.same("free uses", desk.count(5), 0);
        check.same("excused", desk.count(9), 0);
        check.same("mend()", desk.mend(), 0);
        check.same("rounds", desk.count(6), 0);
        check.refused("letter(0)", IndexOutOfBoundsException.class, () -> desk.letter(0));
        check.refused("found(0)", IndexOutOfBoundsException.class, () -> desk.found(0));
        check.refused("place(0)", IndexOutOfBoundsException.class, () -> desk.place(0));
        check.refused("declared(0, 0)", IndexOutOfBoundsException.class, () -> desk.declared(0, 0));
    }

    /** "that was read": it answers as one whose empty text was read. */
    private static void thatWasRead(Check check) {
        LintDesk desk = new LintDesk();
        String before = Check.state(desk);
        check.same("wrong()", desk.wrong(), -1);
        check.same("written", desk.count(8), 0);
        check.same("read() of nothing", desk.read(), 0);
        check.same("the state behind read() of nothing", Check.state(desk), before);
    }

    /** "all RULES ON" */
    private static void allRulesOn(Check check) {
        for (int n = 0; n <= 9; n++) {
            check.same("rule " + n + " of a new one", new LintDesk().rule(n, false), true);
        }
    }

    /** "nothing GIVEN" */
    private static void nothingGiven(Check check) {
        LintDesk desk = new LintDesk();
        check.same("given", desk.count(7), 0);
        check.same("a FREE name is found", Check.read(desk, "a;"), 1);
        check.same("the first that is given", desk.give('a'), 1);
        check.same("it is not found then", desk.count(2), 0);
    }
}
