/** The edges of promise 2: octets, LETTERS and the room for 160 of them. */
public final class Edge02WriteTest {
    private static final int[] LETTERS = {10, 32, 33, 125, 126};
    private static final int[] NO_LETTERS = {1, 9, 11, 13, 31, 127, 128, 138, 160, 255};

    public static void main(String[] args) {
        Check check = new Check();
        letters(check);
        lowestIsZero(check);
        upToTheFirstZero(check);
        noZeroAtAll(check);
        noLetterBeforeTheZero(check);
        room(check);
        roomAgainBehindRead(check);
        check.end();
    }

    /** As many times "a" as size, but for one octet. */
    private static long withOctet(int size, int position, int octet) {
        long w = 0;
        for (int k = size - 1; k >= 0; k--) {
            w = w << 8 | (k == position ? octet : 'a');
        }
        return w;
    }

    private static LintDesk written(int letters) {
        LintDesk desk = new LintDesk();
        Check.write(desk, ";".repeat(letters));
        return desk;
    }

    /** "LETTERS are 32..126 and 10": at each of the 8 octets. */
    private static void letters(Check check) {
        for (int position = 0; position < 8; position++) {
            for (int octet : LETTERS) {
                LintDesk desk = new LintDesk();
                check.same("octet " + octet + " at " + position,
                        desk.write(withOctet(8, position, octet)), 8);
            }
            for (int octet : NO_LETTERS) {
                LintDesk desk = new LintDesk();
                long w = withOctet(8, position, octet);
                check.refused("octet " + octet + " at " + position, IllegalArgumentException.class,
                        () -> desk.write(w));
                check.same("written then", desk.count(8), 0);
            }
        }
    }

    /** "the lowest is 0" */
    private static void lowestIsZero(Check check) {
        LintDesk desk = new LintDesk();
        long[] none = {0, 0x6100L, 0x6161616161616100L, 0xFF00L, Long.MIN_VALUE};
        for (long w : none) {
            check.refused("write(" + w + ")", IllegalArgumentException.class, () -> desk.write(w));
        }
        check.same("written then", desk.count(8), 0);
        check.same("the lowest is not 0", desk.write(0x61L), 1);
    }

    /** "up to the first 0": what is behind it is nothing, LETTERS or not. */
    private static void upToTheFirstZero(Check check) {
        int[] behind = {'b', 0xFF, 1};
        for (int zero = 1; zero < 8; zero++) {
            for (int octet : behind) {
                LintDesk desk = new LintDesk();
                long w = withOctet(8, zero, 0) & (1L << 8 * zero) - 1;
                long more = zero < 7 ? (long) octet << 8 * (zero + 1) : 0;
                check.same("a 0 at " + zero + ", then " + octet, desk.write(w | more), zero);
                check.same("written then", desk.count(8), zero);
            }
        }
    }

    /** "the 8 octets of w": all of them if none is 0. */
    private static void noZeroAtAll(Check check) {
        LintDesk desk = new LintDesk();
        check.same("8 octets", desk.write(Check.octets("abcdefg;")), 8);
        desk.read();
        check.same("the lowest first", Check.text(desk), "abcdefg;");
        check.same("7 octets", desk.write(Check.octets("abcdef;")), 7);
    }

    /** "one before the first 0 is no LETTER" */
    private static void noLetterBeforeTheZero(Check check) {
        for (int size = 1; size <= 7; size++) {
            for (int position = 0; position < size; position++) {
                LintDesk desk = new LintDesk();
                long w = withOctet(size, position, 31);
                check.refused("31 at " + position + " of " + size, IllegalArgumentException.class,
                        () -> desk.write(w));
            }
            LintDesk desk = new LintDesk();
            check.same("all of " + size + " are LETTERS", desk.write(withOctet(size, 0, 32)), size);
        }
    }

    /** "there would be more than 160": 160 are fine for each number of octets, 161 are not. */
    private static void room(Check check) {
        for (int size = 1; size <= 8; size++) {
            long w = Check.octets(";".repeat(size));
            check.same(size + " more make 160", written(160 - size).write(w), 160);
            LintDesk desk = written(161 - size);
            check.refused(size + " more make 161", IndexOutOfBoundsException.class, () -> desk.write(w));
            check.same("written then", desk.count(8), 161 - size);
        }
        check.same("159", written(158).write(';'), 159);
        LintDesk full = written(160);
        check.refused("the 161st", IndexOutOfBoundsException.class, () -> full.write(';'));
        check.refused("the 161st again", IndexOutOfBoundsException.class, () -> full.write('a'));
        check.same("160 stay", full.count(8), 160);
    }

    private static void roomAgainBehindRead(Check check) {
        LintDesk desk = new LintDesk();
        Check.write(desk, " ".repeat(160));
        desk.read();
        check.same("a full SOURCE takes no room from the written text", desk.write(';'), 1);
        Check.write(desk, " ".repeat(159));
        check.same("160 again", desk.count(8), 160);
        LintDesk wrong = new LintDesk();
        Check.write(wrong, "#" + " ".repeat(159));
        check.refused("read() of no PROGRAM", IllegalArgumentException.class, wrong::read);
        check.same("room behind a refused read()", wrong.write(';'), 1);
    }
}
