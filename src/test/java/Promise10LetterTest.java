/** Promise 10: letter. */
public final class Promise10LetterTest {
    public static void main(String[] args) {
        Check check = new Check();
        LintDesk desk = Check.reading("a;\n'~ !';");
        check.same("the source", Check.text(desk), "a;\n'~ !';");
        check.same("letter(0)", desk.letter(0), 97);
        check.same("letter(2)", desk.letter(2), 10);
        check.same("letter(4)", desk.letter(4), 126);
        check.same("letter(5)", desk.letter(5), 32);
        check.same("letter(8)", desk.letter(8), 59);
        int[] none = {9, -1, 159, 160, Integer.MIN_VALUE, Integer.MAX_VALUE};
        for (int k : none) {
            check.refused("letter(" + k + ")", IndexOutOfBoundsException.class, () -> desk.letter(k));
        }
        desk.write(Check.octets("bbbb;"));
        check.same("what is only written is not the source", desk.letter(0), 97);
        desk.read();
        check.same("the later source", Check.text(desk), "bbbb;");
        check.refused("letter(5) then", IndexOutOfBoundsException.class, () -> desk.letter(5));
        String longest = "a;" + " ".repeat(157) + ";";
        Check.read(desk, longest);
        check.same("letter(159) of 160", desk.letter(159), 59);
        desk.mend();
        check.refused("letter(159) when it is mended", IndexOutOfBoundsException.class,
                () -> desk.letter(159));
        check.end();
    }
}
