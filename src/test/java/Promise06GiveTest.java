/** Promise 6: give. */
public final class Promise06GiveTest {
    private static final String[] NO_NAMES = {
        "let", "const", "var", "fn", "if", "else", "while", "return",
        "1", "1a", "A", "aB", "a b", "a;", " a", "a ", "'a'", "a_b", "\n", "abcdefg;",
    };

    public static void main(String[] args) {
        Check check = new Check();
        ordinary(check);
        noNames(check);
        eightAtMost(check);
        freeUses(check);
        check.end();
    }

    private static void ordinary(Check check) {
        LintDesk desk = new LintDesk();
        check.same("give(a)", desk.give(Check.octets("a")), 1);
        check.same("give(abcdefgh)", desk.give(Check.octets("abcdefgh")), 2);
        check.same("give(a1)", desk.give(Check.octets("a1")), 3);
        check.same("give(lets)", desk.give(Check.octets("lets")), 4);
        check.same("nothing counts behind a 0", desk.give(0xFF_3B_00_62L), 5);
        check.refused("give(b), GIVEN", IllegalStateException.class, () -> desk.give(Check.octets("b")));
        check.refused("give(a) with more behind a 0", IllegalStateException.class,
                () -> desk.give(0x61_00_61L));
        check.same("count(7)", desk.count(7), 5);
        check.same("the written text is another", desk.count(8), 0);
    }

    private static void noNames(Check check) {
        LintDesk desk = new LintDesk();
        for (String name : NO_NAMES) {
            check.refused("give(" + name + ")", IllegalArgumentException.class,
                    () -> desk.give(Check.octets(name)));
        }
        long[] odd = {0, 0x6100, -1, 0x80_61, 0xE161616161616161L};
        for (long w : odd) {
            check.refused("give(" + w + ")", IllegalArgumentException.class, () -> desk.give(w));
        }
        check.same("count(7)", desk.count(7), 0);
    }

    private static void eightAtMost(Check check) {
        LintDesk desk = new LintDesk();
        for (int k = 0; k < 8; k++) {
            check.same("give " + k, desk.give('a' + k), k + 1);
        }
        check.refused("the ninth", IndexOutOfBoundsException.class, () -> desk.give('z'));
        check.refused("the ninth, GIVEN", IllegalStateException.class, () -> desk.give('a'));
        check.refused("the ninth, no NAME", IllegalArgumentException.class, () -> desk.give('A'));
        check.same("count(7)", desk.count(7), 8);
    }

    private static void freeUses(Check check) {
        LintDesk desk = Check.reading("a = b; ab; abcdefghi; { let a; a; }");
        check.same("before", Check.findings(desk), "0@0 0@4 0@7 0@11");
        desk.give(Check.octets("a"));
        check.same("a GIVEN", Check.findings(desk), "0@4 0@7 0@11");
        desk.give(Check.octets("abcdefgh"));
        check.same("the first 8 letters GIVEN", Check.findings(desk), "0@4 0@7 0@11");
        desk.give(Check.octets("ab"));
        check.same("ab GIVEN", Check.findings(desk), "0@4 0@11");
        check.same("uses that are FREE", desk.count(5), 4);
        check.same("a later source", Check.read(desk, "a; ab; c; abcdefgh;"), 1);
        check.same("its findings", Check.findings(desk), "0@7");
        Check.read(desk, "let a;");
        check.same("a GIVEN name is not DECLARED around", Check.findings(desk), "1@4");
    }
}
