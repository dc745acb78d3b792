import java.nio.charset.StandardCharsets;
import java.util.ArrayList;
import java.util.List;

/** What the tests share: a count of what is wrong, and short ways to use a LintDesk. */
final class Check {
    private int wrong;

    void same(String what, Object got, Object want) {
        if (!got.equals(want)) {
            wrong++;
            System.out.println(what + " answered " + got + ", due is " + want);
        }
    }

    void refused(String what, Class<? extends RuntimeException> due, Runnable call) {
        String got = "nothing";
        try {
            call.run();
        } catch (RuntimeException e) {
            got = e.getClass().getSimpleName();
        }
        same(what + " throws", got, due.getSimpleName());
    }

    /** The FINDINGS of a source, as "rule@place" in their order. */
    void finds(String source, String want) {
        same("findings of " + source, findings(reading(source)), want);
    }

    void wrongPlace(String source, int want) {
        LintDesk desk = new LintDesk();
        same("the wrong place of " + source, wrongPlaceOf(desk, source), want);
    }

    void mends(String source, String want, int things, int rounds) {
        LintDesk desk = reading(source);
        same("mend() of " + source, desk.mend(), things);
        same("what mend() makes of " + source, text(desk), want);
        same("rounds for " + source, desk.count(6), rounds);
    }

    void end() {
        if (wrong != 0) {
            System.exit(1);
        }
    }

    static long octets(String text) {
        byte[] bytes = text.getBytes(StandardCharsets.ISO_8859_1);
        long w = 0;
        for (int k = bytes.length - 1; k >= 0; k--) {
            w = w << 8 | bytes[k] & 255;
        }
        return w;
    }

    static void write(LintDesk desk, String text) {
        for (int k = 0; k < text.length(); k += 8) {
            desk.write(octets(text.substring(k, Math.min(k + 8, text.length()))));
        }
    }

    static int read(LintDesk desk, String text) {
        write(desk, text);
        return desk.read();
    }

    static LintDesk reading(String text) {
        LintDesk desk = new LintDesk();
        read(desk, text);
        return desk;
    }

    /** -1 if the text is a PROGRAM. */
    static int wrongPlaceOf(LintDesk desk, String text) {
        write(desk, text);
        try {
            desk.read();
            return -1;
        } catch (IllegalArgumentException e) {
            return desk.wrong();
        }
    }

    static String findings(LintDesk desk) {
        StringBuilder all = new StringBuilder();
        for (int k = 0; k < desk.count(2); k++) {
            all.append(k == 0 ? "" : " ").append(desk.found(k)).append('@').append(desk.place(k));
        }
        return all.toString();
    }

    static String text(LintDesk desk) {
        StringBuilder all = new StringBuilder();
        for (int k = 0; k < desk.count(0); k++) {
            all.append((char) desk.letter(k));
        }
        return all.toString();
    }

    /** One thing that is DECLARED: place, KIND, READ, WRITTEN, DECLARED, SCOPES around. */
    static String thing(LintDesk desk, int k) {
        StringBuilder all = new StringBuilder();
        for (int what = 0; what <= 5; what++) {
            all.append(what == 0 ? "" : " ").append(desk.declared(k, what));
        }
        return all.toString();
    }

    static List<String> things(LintDesk desk) {
        List<String> all = new ArrayList<>();
        for (int k = 0; k < desk.count(3); k++) {
            all.add(thing(desk, k));
        }
        return all;
    }
}
