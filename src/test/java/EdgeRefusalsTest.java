/**
 * The last sentence of "Terms": of several exceptions that fit, the one that stands first in the
 * heading; and a call that throws changes nothing but what is said there.
 */
public final class EdgeRefusalsTest {
    private static final Class<IllegalArgumentException> ARGUMENT = IllegalArgumentException.class;
    private static final Class<IllegalStateException> STATE = IllegalStateException.class;
    private static final Class<IndexOutOfBoundsException> INDEX = IndexOutOfBoundsException.class;

    public static void main(String[] args) {
        Check check = new Check();
        firstOfWrite(check);
        firstOfGive(check);
        firstOfDeclared(check);
        writeChangesNothing(check);
        writeWhenFullChangesNothing(check);
        giveChangesNothing(check);
        ruleChangesNothing(check);
        askingChangesNothing(check);
        readChangesWhatIsSaid(check);
        check.end();
    }

    /** A desk in which nothing is as in a new one. */
    private static LintDesk used() {
        LintDesk desk = Check.reading("{{}}let a=b==c;@1 let d;;");
        desk.rule(9, false);
        desk.rule(3, false);
        desk.give('b');
        desk.mend();
        Check.wrongPlaceOf(desk, "x y");
        Check.write(desk, "e;");
        return desk;
    }

    /** write: IllegalArgumentException, IndexOutOfBoundsException */
    private static void firstOfWrite(Check check) {
        LintDesk desk = new LintDesk();
        Check.write(desk, " ".repeat(160));
        check.refused("no LETTER, and full", ARGUMENT, () -> desk.write(1));
        check.refused("the lowest 0, and full", ARGUMENT, () -> desk.write(0));
        check.refused("the last no LETTER, and full", ARGUMENT, () -> desk.write(0xFF61616161616161L));
        check.refused("full", INDEX, () -> desk.write(' '));
        check.refused("full, and no LETTER behind a 0", INDEX, () -> desk.write(0xFF_00_20L));
    }

    /** give: IllegalArgumentException, IllegalStateException, IndexOutOfBoundsException */
    private static void firstOfGive(Check check) {
        LintDesk desk = new LintDesk();
        for (int k = 0; k < 8; k++) {
            desk.give('a' + k);
        }
        check.refused("no NAME, and 8 are", ARGUMENT, () -> desk.give('A'));
        check.refused("a KEYWORD, and 8 are", ARGUMENT, () -> desk.give(Check.octets("let")));
        check.refused("nothing, and 8 are", ARGUMENT, () -> desk.give(0));
        check.refused("GIVEN, and 8 are", STATE, () -> desk.give('a'));
        check.refused("the last GIVEN, and 8 are", STATE, () -> desk.give('h'));
        check.refused("8 are", INDEX, () -> desk.give('i'));
    }

    /** declared: IndexOutOfBoundsException, IllegalArgumentException */
    private static void firstOfDeclared(Check check) {
        LintDesk desk = Check.reading("let a;");
        check.refused("no thing, and nothing to tell", INDEX, () -> desk.declared(1, 6));
        check.refused("no thing, and nothing to tell", INDEX, () -> desk.declared(-1, -1));
        check.refused("no thing", INDEX, () -> desk.declared(1, 5));
        check.refused("nothing to tell", ARGUMENT, () -> desk.declared(0, 6));
        check.refused("nothing to tell", ARGUMENT, () -> desk.declared(0, -1));
        LintDesk none = new LintDesk();
        check.refused("no things at all", INDEX, () -> none.declared(0, 6));
    }

    private static void writeChangesNothing(Check check) {
        LintDesk desk = used();
        check.refusedWithoutTrace("write(0)", ARGUMENT, desk, () -> desk.write(0));
        check.refusedWithoutTrace("write of a last one that is no LETTER", ARGUMENT, desk,
                () -> desk.write(0x7F61616161616161L));
        check.same("read() of what was written before", desk.read(), 1);
        check.same("just that", Check.text(desk), "e;");
    }

    private static void writeWhenFullChangesNothing(Check check) {
        LintDesk desk = used();
        Check.write(desk, " ".repeat(153));
        check.refusedWithoutTrace("write of 8 to 155", INDEX, desk,
                () -> desk.write(Check.octets("gggggggg")));
        check.same("5 more", desk.write(Check.octets("ffff;")), 160);
        desk.read();
        check.same("just those", Check.text(desk), "e;" + " ".repeat(153) + "ffff;");
    }

    private static void giveChangesNothing(Check check) {
        LintDesk desk = used();
        check.refusedWithoutTrace("give(0)", ARGUMENT, desk, () -> desk.give(0));
        check.refusedWithoutTrace("give(let)", ARGUMENT, desk, () -> desk.give(Check.octets("let")));
        check.refusedWithoutTrace("give(b)", STATE, desk, () -> desk.give('b'));
        LintDesk full = Check.reading("a;i;");
        for (int k = 0; k < 8; k++) {
            full.give('a' + k);
        }
        check.refusedWithoutTrace("give(i), 8 are", INDEX, full, () -> full.give('i'));
        check.refusedWithoutTrace("give(a), 8 are", STATE, full, () -> full.give('a'));
    }

    private static void ruleChangesNothing(Check check) {
        int[] none = {-1, 10, 32 + 9};
        for (int n : none) {
            LintDesk desk = used();
            check.refusedWithoutTrace("rule(" + n + ", true)", ARGUMENT, desk, () -> desk.rule(n, true));
            check.refusedWithoutTrace("rule(" + n + ", false)", ARGUMENT, desk, () -> desk.rule(n, false));
        }
    }

    private static void askingChangesNothing(Check check) {
        LintDesk desk = used();
        check.refusedWithoutTrace("found(-1)", INDEX, desk, () -> desk.found(-1));
        check.refusedWithoutTrace("place(60)", INDEX, desk, () -> desk.place(60));
        LintDesk other = used();
        check.refusedWithoutTrace("letter(160)", INDEX, other, () -> other.letter(160));
        check.refusedWithoutTrace("declared(9, 0)", INDEX, other, () -> other.declared(9, 0));
        LintDesk third = used();
        check.refusedWithoutTrace("declared(0, 6)", ARGUMENT, third, () -> third.declared(0, 6));
        check.refusedWithoutTrace("count(10)", ARGUMENT, third, () -> third.count(10));
    }

    /** "(but that the written text is empty behind read, and wrong tells of it)" */
    private static void readChangesWhatIsSaid(Check check) {
        LintDesk desk = used();
        String before = Check.state(desk);
        check.same("written and wrong before", before.contains("written 2 wrong 2"), true);
        Check.write(desk, "f");
        check.refused("read()", ARGUMENT, desk::read);
        check.same("the state behind it", Check.state(desk),
                before.replace("written 2 wrong 2", "written 0 wrong 3"));
        check.same("read() of the empty text", desk.read(), 0);
        check.same("wrong() then", desk.wrong(), -1);
    }
}
