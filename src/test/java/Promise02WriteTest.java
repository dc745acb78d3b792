/** Promise 2: write. */
public final class Promise02WriteTest {
    public static void main(String[] args) {
        Check check = new Check();
        ordinary(check);
        edges(check);
        letters(check);
        full(check);
        check.end();
    }

    private static void ordinary(Check check) {
        LintDesk desk = new LintDesk();
        check.same("write of 1", desk.write(Check.octets("a")), 1);
        check.same("write of 8", desk.write(Check.octets("bcdefgh;")), 9);
        check.same("count(8)", desk.count(8), 9);
        check.same("count(0) before read()", desk.count(0), 0);
        desk.read();
        check.same("the source", Check.text(desk), "abcdefgh;");
        check.same("count(8) behind read()", desk.count(8), 0);
        check.same("write behind read()", desk.write(Check.octets("a")), 1);
    }

    private static void edges(Check check) {
        LintDesk desk = new LintDesk();
        check.same("nothing counts behind a 0", desk.write(0xFF_00_3B_61L), 2);
        check.same("a 0 within", desk.write(0x61_00_61L), 3);
        check.refused("write(0)", IllegalArgumentException.class, () -> desk.write(0));
        check.refused("the lowest is 0", IllegalArgumentException.class, () -> desk.write(0x6100L));
        check.refused("no LETTER", IllegalArgumentException.class, () -> desk.write(0x09_61L));
        check.refused("a negative w", IllegalArgumentException.class,
                () -> desk.write(0xFF61616161616161L));
        check.refused("-1", IllegalArgumentException.class, () -> desk.write(-1));
        check.same("what was refused adds nothing", desk.count(8), 3);
    }

    private static void letters(Check check) {
        for (int octet = 1; octet < 256; octet++) {
            LintDesk desk = new LintDesk();
            boolean taken = true;
            try {
                desk.write(octet);
            } catch (IllegalArgumentException e) {
                taken = false;
            }
            check.same("octet " + octet + " is a LETTER", taken, octet == 10 || octet >= 32 && octet <= 126);
        }
    }

    private static void full(Check check) {
        LintDesk desk = new LintDesk();
        for (int k = 1; k <= 19; k++) {
            desk.write(Check.octets("        "));
        }
        desk.write(Check.octets("       "));
        check.refused("two more than 159", IndexOutOfBoundsException.class,
                () -> desk.write(Check.octets("  ")));
        check.same("159 stay", desk.count(8), 159);
        check.same("the 160th", desk.write(Check.octets(" ")), 160);
        check.refused("the 161st", IndexOutOfBoundsException.class, () -> desk.write(32));
        check.refused("no LETTER comes first", IllegalArgumentException.class, () -> desk.write(1));
        check.same("160 are read", desk.read(), 0);
        check.same("count(0)", desk.count(0), 160);
    }
}
