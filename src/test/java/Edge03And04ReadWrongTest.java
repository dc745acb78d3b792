/** The edges of promises 3 and 4: an empty text, a text that is no PROGRAM, and what wrong() tells of either. */
public final class Edge03And04ReadWrongTest {
    public static void main(String[] args) {
        Check check = new Check();
        emptyText(check);
        emptyThen(check);
        noProgram(check);
        noProgramAtFirst(check);
        noneWasRead(check);
        theLatest(check);
        theEnd(check);
        longest(check);
        check.end();
    }

    /** An empty text is a PROGRAM, and is the SOURCE then. */
    private static void emptyText(Check check) {
        LintDesk desk = Check.reading("let a = b;");
        check.same("read() of nothing", desk.read(), 0);
        check.same("the state then", Check.state(desk), Check.state(new LintDesk()));
        check.same("read() of nothing again", desk.read(), 0);
    }

    /** "The text that was written is the SOURCE, and empty then" */
    private static void emptyThen(Check check) {
        LintDesk desk = new LintDesk();
        Check.write(desk, "a;");
        check.same("written", desk.count(8), 2);
        check.same("not read yet", desk.count(0), 0);
        check.same("read()", desk.read(), 1);
        check.same("written then", desk.count(8), 0);
        check.same("the SOURCE", Check.text(desk), "a;");
        Check.write(desk, "b");
        check.same("a part of the next text", Check.text(desk), "a;");
        Check.write(desk, ";");
        desk.read();
        check.same("nothing of the former text is in it", Check.text(desk), "b;");
    }

    /** "it is no PROGRAM; then the SOURCE from before stays", and "the written text is empty behind read" */
    private static void noProgram(Check check) {
        LintDesk desk = Check.reading("let a = b; ;");
        desk.rule(9, false);
        desk.give('c');
        String before = Check.stateOfSource(desk);
        String[] wrong = {"a", "}", "#", "'", "return;", "a; b; c; #", ";".repeat(61)};
        for (String text : wrong) {
            Check.write(desk, text);
            check.refused("read() of " + text, IllegalArgumentException.class, desk::read);
            check.same("written behind " + text, desk.count(8), 0);
        }
        check.same("the SOURCE and all it tells", Check.stateOfSource(desk), before);
        check.same("read() of the empty text behind it", desk.read(), 0);
    }

    private static void noProgramAtFirst(Check check) {
        LintDesk desk = new LintDesk();
        Check.write(desk, "a");
        check.refused("read() of no PROGRAM", IllegalArgumentException.class, desk::read);
        check.same("the empty SOURCE stays", desk.count(0), 0);
        check.same("its SCOPE", desk.count(4), 1);
        check.same("wrong()", desk.wrong(), 1);
    }

    /** "-1 if ... there was none" */
    private static void noneWasRead(Check check) {
        LintDesk desk = new LintDesk();
        check.same("wrong() of a new one", desk.wrong(), -1);
        Check.write(desk, "}");
        check.same("wrong() of what is not read yet", desk.wrong(), -1);
        desk.mend();
        check.same("wrong() behind mend()", desk.wrong(), -1);
    }

    /** "of the latest read(); -1 if it was a PROGRAM" */
    private static void theLatest(Check check) {
        LintDesk desk = new LintDesk();
        check.same("the first", Check.wrongPlaceOf(desk, "a; }"), 3);
        Check.write(desk, "b;");
        check.same("before the next read()", desk.wrong(), 3);
        desk.read();
        check.same("a PROGRAM", desk.wrong(), -1);
        check.same("wrong at 0", Check.wrongPlaceOf(desk, "}"), 0);
        check.same("wrong() at 0", desk.wrong(), 0);
        desk.mend();
        check.same("behind mend()", desk.wrong(), 0);
        desk.read();
        check.same("an empty PROGRAM", desk.wrong(), -1);
    }

    /** "the end: how many LETTERS there are" */
    private static void theEnd(Check check) {
        check.wrongPlace("a", 1);
        check.wrongPlace("a\n", 2);
        check.wrongPlace("let a = 1; let b = 2", 20);
        check.wrongPlace("{" + ";".repeat(50) + " ".repeat(109), 160);
    }

    /** A text of 160 LETTERS is read to its last one. */
    private static void longest(Check check) {
        String blanks = " ".repeat(158);
        check.wrongPlace(blanks + "a;", -1);
        check.wrongPlace(blanks + "a}", 159);
        check.wrongPlace(blanks + "a#", 159);
        check.wrongPlace(blanks + "aa", 160);
        check.same("findings at the last LETTERS", Check.findings(Check.reading(blanks + "a;")), "0@158");
        check.same("a finding at the last LETTER", Check.findings(Check.reading(blanks + " ;")), "9@159");
    }
}
