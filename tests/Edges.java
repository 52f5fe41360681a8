import java.io.IOException;
import java.nio.file.Files;
import java.nio.file.Path;
import java.util.HashSet;
import java.util.Set;
import java.util.function.Supplier;

/**
 * What the tests of edges share: each edge is named by the document's own words, and a refused call is made on one
 * of two twins, so that what is shown of both must be the same behind it.
 */
final class Edges {
    static final int NONE = -1;
    private static final String DOCUMENT = squeezed(document());
    private static final Set<String> TOLD = new HashSet<>();
    private static int wrong;
    private static int count;
    private static String words = "";

    private Edges() { }

    /** One call, its answer as a number (a boolean counts 1 or 0). */
    interface Call {
        long on(ElevenBullocks x);
    }

    private static String document() {
        Path path = Path.of("..", "shared", "DOC.md");
        try {
            return Files.isReadable(path) ? Files.readString(path) : "";
        } catch (IOException e) {
            return "";
        }
    }

    private static String squeezed(String text) {
        return text.replaceAll("\\s+", " ").trim();
    }

    private static void complain(String what) {
        wrong++;
        System.out.println("\"" + words + "\": " + what);
    }

    /** A sentence of the document, or the part of it that names an edge, and the test of its own. */
    static void edge(String ofDocument, Runnable test) {
        words = ofDocument;
        TOLD.add(squeezed(ofDocument));
        count++;
        if (!DOCUMENT.isEmpty() && !DOCUMENT.contains(squeezed(ofDocument))) {
            complain("these are not the document's words");
        }
        try {
            test.run();
        } catch (RuntimeException e) {
            complain("threw " + e);
        }
    }

    static void due(String call, long got, long want) {
        if (got != want) {
            complain(call + " answered " + got + ", due is " + want);
        }
    }

    static void due(String call, boolean got, boolean want) {
        due(call, n(got), n(want));
    }

    static long n(boolean answer) {
        return answer ? 1 : 0;
    }

    /** The call has this answer, and nothing else is as if it had not been made. */
    static void refused(String call, Supplier<ElevenBullocks> make, Call made, long want) {
        ElevenBullocks one = make.get();
        due(call, made.on(one), want);
        String due = all(make.get());
        String got = all(one);
        if (!got.equals(due)) {
            complain(call + " is no call that leaves all as it was: " + difference(got, due));
        }
    }

    /** A question: it has this answer, and all stays as it was, as with a refused call. */
    static void asked(String call, Supplier<ElevenBullocks> make, Call made, long want) {
        refused(call, make, made, want);
    }

    private static String difference(String got, String due) {
        String[] a = got.split("\n");
        String[] b = due.split("\n");
        for (int i = 0; i < a.length && i < b.length; i++) {
            if (!a[i].equals(b[i])) {
                return a[i] + " instead of " + b[i];
            }
        }
        return a.length + " lines instead of " + b.length;
    }

    /** What one object shows, part by part, in some 350 calls, which spend it: they take steps back, and go back. */
    static String all(ElevenBullocks x) {
        StringBuilder all = new StringBuilder();
        abouts(x, all);
        parts(x, all);
        add(all, "fault(0)", x.fault(0));
        add(all, "fault(1)", x.fault(1));
        for (int steps = x.about(9); steps > 0; steps--) {
            add(all, "undo()", x.undo());
            add(all, "about(3) then", x.about(3));
            add(all, "about(5) then", x.about(5));
            add(all, "about(6) then", x.about(6));
        }
        add(all, "text()", x.text());
        add(all, "fault(0) of it", x.fault(0));
        add(all, "fault(1) of it", x.fault(1));
        add(all, "back()", x.back());
        abouts(x, all);
        return all.toString();
    }

    private static void add(StringBuilder all, String call, long answer) {
        all.append(call).append(" = ").append(answer).append('\n');
    }

    private static void abouts(ElevenBullocks x, StringBuilder all) {
        for (int what = 0; what <= 12; what++) {
            add(all, "about(" + what + ")", x.about(what));
        }
    }

    private static void parts(ElevenBullocks x, StringBuilder all) {
        for (int b = 0; b < 4; b++) {
            for (int what = 0; what < 4; what++) {
                add(all, "bunch(" + b + ", " + what + ")", x.bunch(b, what));
            }
        }
        for (int p = x.about(2) - 1; p >= 0; p--) {
            for (int what = 0; what < 5; what++) {
                add(all, "ofPerson(" + p + ", " + what + ")", x.ofPerson(p, what));
            }
        }
        for (int s = x.about(0) - 1; s >= 0; s--) {
            for (int what = 0; what < 4; what++) {
                add(all, "ofStretch(" + s + ", " + what + ")", x.ofStretch(s, what));
            }
        }
        for (int w = x.about(1) - 1; w >= 0; w--) {
            for (int what = 0; what < 4; what++) {
                add(all, "ofWay(" + w + ", " + what + ")", x.ofWay(w, what));
            }
            add(all, "saved(" + w + ")", x.saved(w));
        }
        for (int how = 0; how < 4; how++) {
            add(all, "turned(" + how + ", false)", x.turned(how, false));
            add(all, "turned(" + how + ", true)", x.turned(how, true));
        }
        for (int t = x.about(7) - 1; t >= 0; t--) {
            add(all, "pays(0, " + t + ")", x.pays(0, t));
        }
        add(all, "which()", x.which());
    }

    /** A text that must be right; its number. */
    static int tell(ElevenBullocks x, String text) {
        int number = Texts.tell(x, text);
        if (number == NONE) {
            complain("fault " + x.fault(0) + " at " + x.fault(1) + " in " + text);
        }
        return number;
    }

    static ElevenBullocks ruled(ElevenBullocks x, String text) {
        x.by(tell(x, text));
        return x;
    }

    /** Stretches of these kinds, each of harm 1, without ways. */
    static ElevenBullocks stretches(int... kinds) {
        ElevenBullocks x = new ElevenBullocks();
        for (int kind : kinds) {
            x.stretch(kind, 1);
        }
        return x;
    }

    /** The same with a gate between each and the next: way i is between i and i + 1. */
    static ElevenBullocks row(int... kinds) {
        ElevenBullocks x = stretches(kinds);
        for (int i = 0; i + 1 < kinds.length; i++) {
            x.way(i, i + 1, false);
        }
        return x;
    }

    static ElevenBullocks lanes(int n) {
        return row(new int[n]);
    }

    /** So many minutes go by, 60 at a time. */
    static ElevenBullocks later(ElevenBullocks x, int minutes) {
        for (int left = minutes; left > 0; left -= 60) {
            x.minute(Math.min(60, left));
        }
        return x;
    }

    static int anew(int x) {
        return (x * 239 + 137) % 30203;
    }

    /** Each promise of the document must be the name of an edge: so none is left out, and none is left as it was. */
    static void allPromises() {
        String[] parts = DOCUMENT.split("## Promise \\d+: ");
        for (int i = 1; i < parts.length; i++) {
            String told = parts[i].substring(parts[i].indexOf("`: ") + 3).replaceAll(" ## .*", "").trim();
            if (!TOLD.contains(told)) {
                words = told;
                complain("promise " + i + " has no test of its edges");
            }
        }
    }

    static void end() {
        System.out.println(wrong == 0 ? count + " edges hold" : wrong + " answers are not as due");
        if (wrong != 0) {
            System.exit(1);
        }
    }
}
