import java.nio.charset.StandardCharsets;
import java.util.ArrayList;
import java.util.List;

/** What the tests share: a count of what is wrong, and short ways to use a LintDesk. */
final class Check {
    private int wrong;

    void same(String what, Object got, Object want) {
        if (!got.equals(want)) {
            wrong++;
            System.out.println(what + " answered " + got + ", due is " + want);
        }
    }

    void refused(String what, Class<? extends RuntimeException> due, Runnable call) {
        String got = "nothing";
        try {
            call.run();
        } catch (RuntimeException e) {
            got = e.getClass().getSimpleName();
        }
        same(what + " throws", got, due.getSimpleName());
    }

    /** The FINDINGS of a source, as "rule@place" in their order. */
    void finds(String source, String want) {
        same("findings of " + source, findings(reading(source)), want);
    }

    void wrongPlace(String source, int want) {
        LintDesk desk = new LintDesk();
        same("the wrong place of " + source, wrongPlaceOf(desk, source), want);
    }

    /** Both sides of a boundary: the first is a PROGRAM, the second is wrong at a place. */
    void edge(String inside, String outside, int place) {
        wrongPlace(inside, -1);
        wrongPlace(outside, place);
    }

    /** It throws, and nothing that can be asked is another then. */
    void refusedWithoutTrace(String what, Class<? extends RuntimeException> due, LintDesk desk,
            Runnable call) {
        String before = state(desk);
        refused(what, due, call);
        same("the state behind the refused " + what, state(desk), before);
    }

    void mends(String source, String want, int things, int rounds) {
        LintDesk desk = reading(source);
        same("mend() of " + source, desk.mend(), things);
        same("what mend() makes of " + source, text(desk), want);
        same("rounds for " + source, desk.count(6), rounds);
    }

    void end() {
        if (wrong != 0) {
            System.exit(1);
        }
    }

    static long octets(String text) {
        byte[] bytes = text.getBytes(StandardCharsets.ISO_8859_1);
        long w = 0;
        for (int k = bytes.length - 1; k >= 0; k--) {
            w = w << 8 | bytes[k] & 255;
        }
        return w;
    }

    static void write(LintDesk desk, String text) {
        for (int k = 0; k < text.length(); k += 8) {
            desk.write(octets(text.substring(k, Math.min(k + 8, text.length()))));
        }
    }

    static int read(LintDesk desk, String text) {
        write(desk, text);
        return desk.read();
    }

    static LintDesk reading(String text) {
        LintDesk desk = new LintDesk();
        read(desk, text);
        return desk;
    }

    /** -1 if the text is a PROGRAM. */
    static int wrongPlaceOf(LintDesk desk, String text) {
        write(desk, text);
        try {
            desk.read();
            return -1;
        } catch (IllegalArgumentException e) {
            return desk.wrong();
        }
    }

    static String findings(LintDesk desk) {
        StringBuilder all = new StringBuilder();
        int size = desk.count(2);
        for (int k = 0; k < size; k++) {
            all.append(k == 0 ? "" : " ").append(desk.found(k)).append('@').append(desk.place(k));
        }
        return all.toString();
    }

    static String text(LintDesk desk) {
        StringBuilder all = new StringBuilder();
        int size = desk.count(0);
        for (int k = 0; k < size; k++) {
            all.append((char) desk.letter(k));
        }
        return all.toString();
    }

    /** One thing that is DECLARED: place, KIND, READ, WRITTEN, DECLARED, SCOPES around. */
    static String thing(LintDesk desk, int k) {
        StringBuilder all = new StringBuilder();
        for (int what = 0; what <= 5; what++) {
            all.append(what == 0 ? "" : " ").append(desk.declared(k, what));
        }
        return all.toString();
    }

    /** What the SOURCE, the RULES and the GIVEN names tell. */
    static String stateOfSource(LintDesk desk) {
        List<String> all = new ArrayList<>();
        all.add(text(desk));
        all.add(findings(desk));
        all.addAll(things(desk));
        int[] counts = {0, 1, 2, 3, 4, 5, 7, 9};
        for (int what : counts) {
            all.add("count(" + what + ") " + desk.count(what));
        }
        return all.toString();
    }

    /** All that can be asked of a desk. */
    static String state(LintDesk desk) {
        StringBuilder all = new StringBuilder(stateOfSource(desk));
        all.append(" rounds ").append(desk.count(6));
        all.append(" written ").append(desk.count(8));
        all.append(" wrong ").append(desk.wrong());
        for (int n = 0; n <= 9; n++) {
            boolean on = desk.rule(n, true);
            desk.rule(n, on);
            all.append(on ? " on" : " off");
        }
        return all.toString();
    }

    static List<String> things(LintDesk desk) {
        List<String> all = new ArrayList<>();
        int size = desk.count(3);
        for (int k = 0; k < size; k++) {
            all.add(thing(desk, k));
        }
        return all;
    }
}
