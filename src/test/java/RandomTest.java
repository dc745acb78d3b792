import java.util.Random;

/** What holds for every text, on many that are made at random from the same seed each time. */
public final class RandomTest {
    private static final String[] PIECES = {
        "let a=1;", "let b;", "const c=a;", "var a=b;", "var b;", "fn f(a,b){", "fn a(c){", "{", "{", "}", "}",
        "if(a)", "else ", "while(b)", "return;", "return a;", ";", ";", "a==b;", "c=a=1;", "f(a,b==c);",
        "@1 ", "@9", "@6 ", "@4 ", "{}", "{ }", "!a;", "(b)", "a", "=", "==", "'x'", "12", "#", "let ", " ", "\n",
    };
    private static final int TEXTS = 20_000;

    private final Check check = new Check();
    private final Random random = new Random(1);

    public static void main(String[] args) {
        RandomTest test = new RandomTest();
        int programs = 0;
        for (int k = 0; k < TEXTS; k++) {
            programs += test.oneText(test.text()) ? 1 : 0;
        }
        test.check.same("enough of the texts are programs", programs > TEXTS / 10, true);
        test.check.end();
    }

    private String text() {
        StringBuilder text = new StringBuilder();
        int open = 0;
        int pieces = random.nextInt(16);
        for (int k = 0; k < pieces; k++) {
            String piece = PIECES[random.nextInt(random.nextInt(10) == 0 ? PIECES.length : 28)];
            if (piece.equals("}") && open == 0) {
                continue;
            }
            open += piece.endsWith("{") ? 1 : piece.equals("}") ? -1 : 0;
            text.append(piece);
        }
        text.append("}".repeat(random.nextInt(20) == 0 ? 0 : open));
        while (random.nextInt(8) == 0) {
            text.append(" ".repeat(Math.max(0, 157 + random.nextInt(4) - text.length())));
        }
        return text.substring(0, Math.min(160, text.length()));
    }

    private boolean oneText(String text) {
        LintDesk desk = Check.reading("let z = 0; z == y;");
        String before = Check.stateOfSource(desk);
        int place = Check.wrongPlaceOf(desk, text);
        check.same("wrong() of " + text, desk.wrong(), place);
        if (place >= 0) {
            check.same("the state behind " + text, Check.stateOfSource(desk), before);
            wrongPlace(text, place);
            return false;
        }
        check.same("the source", Check.text(desk), text);
        findings(text, desk);
        settings(desk);
        mended(text, desk);
        return true;
    }

    /** What stands before the wrong place could stand there: a LETTER of no TOKEN is wrong just behind it. */
    private void wrongPlace(String text, int place) {
        check.same("the wrong place is in " + text, place <= text.length(), true);
        if (place < 160) {
            check.wrongPlace(text.substring(0, place) + "#", place);
        }
    }

    private void findings(String text, LintDesk desk) {
        int last = -1;
        for (int k = 0; k < desk.count(2); k++) {
            int now = desk.place(k) * 10 + desk.found(k);
            check.same("findings rise in " + text, now > last, true);
            last = now;
        }
        if (text.indexOf('@') < 0) {
            check.same("nothing is excused in " + text, desk.count(9), 0);
        }
    }

    private void settings(LintDesk desk) {
        for (int n = 0; n <= 9; n++) {
            desk.rule(n, random.nextInt(4) != 0);
        }
        if (random.nextBoolean()) {
            desk.give(Check.octets("c"));
        }
    }

    private void mended(String text, LintDesk desk) {
        int letters = desk.count(0);
        int things = desk.mend();
        int rounds = desk.count(6);
        check.same("things and rounds of " + text, things == 0, rounds == 0);
        check.same("at most 4 rounds for " + text, rounds <= 4 && rounds <= things, true);
        check.same("at most 160 letters of " + text, desk.count(0) <= 160, true);
        LintDesk fresh = new LintDesk();
        for (int n = 0; n <= 9; n++) {
            boolean on = desk.rule(n, true);
            desk.rule(n, on);
            fresh.rule(n, on);
        }
        if (desk.count(7) > 0) {
            fresh.give(Check.octets("c"));
        }
        Check.read(fresh, Check.text(desk));
        check.same("the mended " + text + " read anew", Check.stateOfSource(fresh), Check.stateOfSource(desk));
        if (rounds < 4 && letters < 100) {
            check.same("nothing more to mend in " + text, fresh.mend(), 0);
        }
    }
}
