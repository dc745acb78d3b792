/** "An object is used for at most 512 calls": the 512th answers as the first ones do. */
public final class EdgeCallsTest {
    private static final int CALLS = 512;

    public static void main(String[] args) {
        Check check = new Check();
        rounds(check);
        refusals(check);
        check.end();
    }

    /** 8 calls at a time: write, write, read, found, declared, mend, count, letter. */
    private static void rounds(Check check) {
        LintDesk desk = new LintDesk();
        for (int k = 0; k < CALLS / 8; k++) {
            check.same("write", desk.write(Check.octets("let a=b=")), 8);
            check.same("write", desk.write(Check.octets("=1;{{}}")), 15);
            check.same("read()", desk.read(), 5);
            check.same("found(0)", desk.found(0), 7);
            check.same("declared(0, 0)", desk.declared(0, 0), 4);
            check.same("mend()", desk.mend(), 4);
            check.same("count(0)", desk.count(0), 14);
            check.same("letter(0)", desk.letter(0), (int) 'c');
        }
    }

    /** 4 calls at a time, three of them refused. */
    private static void refusals(Check check) {
        LintDesk desk = new LintDesk();
        for (int k = 0; k < CALLS / 4; k++) {
            check.same("write", desk.write('a'), 1);
            check.refused("read()", IllegalArgumentException.class, desk::read);
            check.refused("found(0)", IndexOutOfBoundsException.class, () -> desk.found(0));
            check.refused("give(0)", IllegalArgumentException.class, () -> desk.give(0));
        }
    }
}
