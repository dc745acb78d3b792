/** The edges of promises 10 to 12: no such LETTER, no such thing, nothing to tell or to count. */
public final class Edge10To12AskingTest {
    public static void main(String[] args) {
        Check check = new Check();
        letters(check);
        lettersOfTheSource(check);
        things(check);
        tells(check);
        deepest(check);
        counts(check);
        most(check);
        check.end();
    }

    /** letter: "there is none" */
    private static void letters(Check check) {
        for (int size : new int[] {0, 1, 2, 8, 159, 160}) {
            LintDesk desk = Check.reading(" ".repeat(Math.max(0, size - 1)) + (size > 0 ? ";" : ""));
            int[] none = {-1, size, size + 1, -160, 161, Integer.MIN_VALUE, Integer.MAX_VALUE};
            for (int k : none) {
                check.refused("letter(" + k + ") of " + size, IndexOutOfBoundsException.class,
                        () -> desk.letter(k));
            }
            if (size > 0) {
                check.same("the last letter of " + size, desk.letter(size - 1), (int) ';');
                check.same("the first letter of " + size, desk.letter(0), size == 1 ? 59 : 32);
            }
        }
    }

    /** letter: "of the SOURCE", the shorter one behind a longer one, too */
    private static void lettersOfTheSource(Check check) {
        LintDesk desk = Check.reading("abcdefgh;;");
        check.same("letter(9)", desk.letter(9), (int) ';');
        desk.mend();
        check.same("letter(8) when it is mended", desk.letter(8), (int) ';');
        check.refused("letter(9) when it is mended", IndexOutOfBoundsException.class, () -> desk.letter(9));
        Check.read(desk, "a;");
        check.refused("letter(2) of the next", IndexOutOfBoundsException.class, () -> desk.letter(2));
        Check.write(desk, "abcd");
        check.refused("letter(2) of what is written", IndexOutOfBoundsException.class,
                () -> desk.letter(2));
        Check.wrongPlaceOf(desk, "abcd");
        check.same("letter(1) behind a refused read()", desk.letter(1), (int) ';');
    }

    /** declared: "there is none" */
    private static void things(Check check) {
        String[] sources = {"", "a;", "let a;", "let a;let b;", "fn f(a,b,c,d){}", "var a;var a;"};
        int[] sizes = {0, 0, 1, 2, 5, 1};
        for (int s = 0; s < sources.length; s++) {
            LintDesk desk = Check.reading(sources[s]);
            check.same("things of " + sources[s], desk.count(3), sizes[s]);
            int[] none = {-1, sizes[s], sizes[s] + 1, 60, Integer.MIN_VALUE, Integer.MAX_VALUE};
            for (int k : none) {
                check.refused("declared(" + k + ", 0) of " + sources[s], IndexOutOfBoundsException.class,
                        () -> desk.declared(k, 0));
            }
            for (int k = 0; k < sizes[s]; k++) {
                check.same("declared(" + k + ", 4)", desk.declared(k, 4) >= 1, true);
            }
        }
    }

    /** declared: "what 0 ... 5", "IllegalArgumentException for others" */
    private static void tells(Check check) {
        LintDesk desk = Check.reading("{ let a = 1; let a; a; a; a = a = 2; }");
        check.same("all that is told", Check.thing(desk, 0), "6 0 2 3 2 1");
        int[] others = {-1, 6, 7, 256, -256, Integer.MIN_VALUE, Integer.MAX_VALUE};
        for (int what : others) {
            check.refused("declared(0, " + what + ")", IllegalArgumentException.class,
                    () -> desk.declared(0, what));
        }
        check.same("a thing never used", Check.thing(Check.reading("fn f(a){}"), 1), "5 4 0 0 1 1");
        check.same("the last of 20", Check.reading(twentyLets()).declared(19, 0), 4 + 19 * 7);
    }

    private static String twentyLets() {
        StringBuilder all = new StringBuilder();
        for (char name = 'a'; name < 'a' + 20; name++) {
            all.append("let ").append(name).append(";\n");
        }
        return all.toString();
    }

    /** declared 5: "how many SCOPES are around its own", from none to the most */
    private static void deepest(Check check) {
        for (int around = 0; around <= 11; around++) {
            LintDesk desk = Check.reading("{".repeat(around) + "let a;var b;" + "}".repeat(around));
            check.same("around a let in " + around, desk.declared(0, 5), around);
            check.same("around a var in " + around, desk.declared(1, 5), 0);
            check.same("SCOPES", desk.count(4), around + 1);
        }
        check.same("a PARAMETER of the deepest fn",
                Check.reading("{".repeat(11) + "fn f(a){}" + "}".repeat(11)).declared(1, 5), 12);
    }

    /** count: "IllegalArgumentException for others" */
    private static void counts(Check check) {
        LintDesk desk = Check.reading("a;");
        int[] others = {-1, 10, 11, 256, -256, Integer.MIN_VALUE, Integer.MAX_VALUE};
        for (int what : others) {
            check.refused("count(" + what + ")", IllegalArgumentException.class, () -> desk.count(what));
        }
        int[] want = {2, 2, 1, 0, 1, 1, 0, 0, 0, 0};
        for (int what = 0; what <= 9; what++) {
            check.same("count(" + what + ")", desk.count(what), want[what]);
        }
    }

    /** As many of each as there can be. */
    private static void most(Check check) {
        LintDesk full = Check.reading(" ".repeat(100) + ";".repeat(60));
        check.same("LETTERS", full.count(0), 160);
        check.same("TOKENS", full.count(1), 60);
        check.same("FINDINGS", full.count(2), 60);
        check.same("SCOPES", Check.reading("{}".repeat(30)).count(4), 31);
        check.same("free USES", Check.reading("a+".repeat(29) + "a;").count(5), 30);
        check.same("excused", Check.reading("@0 a" + "+a".repeat(28) + ";").count(9), 29);
        check.same("READ", Check.reading("var a;" + "a+".repeat(27) + "a;").declared(0, 2), 28);
        check.same("WRITTEN", Check.reading("var a;" + "a=1;".repeat(14)).declared(0, 3), 14);
        check.same("DECLARED", Check.reading("var a;".repeat(20)).declared(0, 4), 20);
        LintDesk written = new LintDesk();
        Check.write(written, " ".repeat(160));
        check.same("LETTERS written", written.count(8), 160);
        check.same("LETTERS of the SOURCE then", written.count(0), 0);
    }
}
