/** The edges of promises 5 and 6: numbers that are no RULE, names that are none, and 8 that are GIVEN. */
public final class Edge05And06RuleGiveTest {
    private static final String[] KEYWORDS = {
        "let", "const", "var", "fn", "if", "else", "while", "return",
    };

    public static void main(String[] args) {
        Check check = new Check();
        noRule(check);
        whetherItWas(check);
        noName(check);
        octetsOfNames(check);
        keywords(check);
        givenAlready(check);
        eightAre(check);
        check.end();
    }

    /** "n is not 0..9" */
    private static void noRule(Check check) {
        LintDesk desk = Check.reading("a; ;");
        int[] none = {-1, 10, 11, -10, 31, 32, 41, 256, -32, Integer.MIN_VALUE, Integer.MAX_VALUE};
        for (int n : none) {
            check.refused("rule(" + n + ", false)", IllegalArgumentException.class, () -> desk.rule(n, false));
            check.refused("rule(" + n + ", true)", IllegalArgumentException.class, () -> desk.rule(n, true));
        }
        check.same("findings then", Check.findings(desk), "0@0 9@3");
        check.same("rule(0)", desk.rule(0, false), true);
        check.same("rule(9)", desk.rule(9, false), true);
        check.same("no findings then", desk.count(2), 0);
        check.refused("rule(-1, true)", IllegalArgumentException.class, () -> desk.rule(-1, true));
        check.refused("rule(10, true)", IllegalArgumentException.class, () -> desk.rule(10, true));
        check.same("and none behind what was refused", desk.count(2), 0);
    }

    /** "RULE n is ON, or not: whether it was": also if it is so already. */
    private static void whetherItWas(Check check) {
        for (int n = 0; n <= 9; n++) {
            LintDesk desk = new LintDesk();
            check.same("on, and on", desk.rule(n, true), true);
            check.same("on, and off", desk.rule(n, false), true);
            check.same("off, and off", desk.rule(n, false), false);
            check.same("off, and on", desk.rule(n, true), false);
            check.same("on again", desk.rule(n, true), true);
        }
        LintDesk desk = new LintDesk();
        for (int n = 0; n <= 9; n++) {
            desk.rule(n, false);
        }
        check.same("read() with no RULE ON", Check.read(desk, "let a = b == c; ; {}"), 0);
        check.same("mend() with no RULE ON", desk.mend(), 0);
        check.same("excused with no RULE ON", desk.count(9), 0);
    }

    private static void given(Check check, String name) {
        check.same("give(" + name + ")", new LintDesk().give(Check.octets(name)), 1);
    }

    private static void notGiven(Check check, String name) {
        LintDesk desk = new LintDesk();
        check.refused("give(" + name + ")", IllegalArgumentException.class,
                () -> desk.give(Check.octets(name)));
        check.same("given then", desk.count(7), 0);
    }

    /** "it is no NAME": by its first LETTER, and by those behind it */
    private static void noName(Check check) {
        for (char letter = 1; letter < 256; letter++) {
            boolean small = letter >= 'a' && letter <= 'z';
            boolean digit = letter >= '0' && letter <= '9';
            checkName(check, "" + letter, small);
            checkName(check, "a" + letter, small || digit);
            checkName(check, "abcdefg" + letter, small || digit);
        }
        notGiven(check, "");
        notGiven(check, "12");
    }

    private static void checkName(Check check, String name, boolean is) {
        if (is) {
            given(check, name);
        } else {
            notGiven(check, name);
        }
    }

    /** "in the octets of w, as write() takes them" */
    private static void octetsOfNames(Check check) {
        LintDesk desk = new LintDesk();
        long[] none = {0, 0x6100L, Long.MIN_VALUE, Long.MAX_VALUE, -1, 0xFF_61L};
        for (long w : none) {
            check.refused("give(" + w + ")", IllegalArgumentException.class, () -> desk.give(w));
        }
        check.same("nothing counts behind the first 0", desk.give(0xFF_00_61L), 1);
        check.refused("it is the same name", IllegalStateException.class, () -> desk.give('a'));
        check.same("8 octets", desk.give(Check.octets("abcdefgh")), 2);
        check.same("7 octets", desk.give(Check.octets("abcdefg")), 3);
        check.same("those of a KEYWORD behind a 0", desk.give(0x74_65_6C_00_62L), 4);
        check.refused("a KEYWORD, and more behind a 0", IllegalArgumentException.class,
                () -> desk.give(0x61_00_74_65_6CL));
        check.same("what is GIVEN", Check.read(desk, "a;abcdefgh;abcdefg;b;abcdef;abcdefghi;c;"), 3);
        check.same("places", Check.findings(desk), "0@21 0@28 0@38");
    }

    private static void keywords(Check check) {
        for (String word : KEYWORDS) {
            notGiven(check, word);
            given(check, word + "s");
            given(check, "a" + word);
            given(check, word.substring(0, word.length() - 1));
        }
    }

    /** "it is GIVEN" */
    private static void givenAlready(Check check) {
        LintDesk desk = new LintDesk();
        check.same("give(a)", desk.give('a'), 1);
        check.refused("give(a) again", IllegalStateException.class, () -> desk.give('a'));
        check.same("given then", desk.count(7), 1);
        check.same("give(aa)", desk.give(Check.octets("aa")), 2);
        check.refused("give(aa) again", IllegalStateException.class, () -> desk.give(Check.octets("aa")));
        check.refused("give(a) once more", IllegalStateException.class, () -> desk.give('a'));
        Check.read(desk, "let b;");
        check.same("a name that is DECLARED can be GIVEN", desk.give('b'), 3);
        check.same("it is UNUSED all the same", Check.findings(desk), "1@4");
    }

    /** "8 are" */
    private static void eightAre(Check check) {
        LintDesk desk = Check.reading("a;b;c;d;e;f;g;h;i;");
        for (int k = 0; k < 8; k++) {
            check.same("findings with " + k + " GIVEN", desk.count(2), 9 - k);
            check.same("give number " + (k + 1), desk.give('a' + k), k + 1);
        }
        check.refused("the ninth", IndexOutOfBoundsException.class, () -> desk.give('i'));
        check.same("given then", desk.count(7), 8);
        check.same("the ninth is found", Check.findings(desk), "0@16");
        check.same("USES that are FREE, GIVEN or not", desk.count(5), 9);
        check.refused("the first again", IllegalStateException.class, () -> desk.give('a'));
        check.refused("the eighth again", IllegalStateException.class, () -> desk.give('h'));
        check.refused("no NAME", IllegalArgumentException.class, () -> desk.give('1'));
        Check.read(desk, "h;");
        check.same("they stay GIVEN for a later SOURCE", desk.count(2), 0);
    }
}
