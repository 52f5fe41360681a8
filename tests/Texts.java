import java.util.ArrayList;
import java.util.List;
import java.util.Random;

/** Texts for tests: onto the tape, and drawn by chance, right ones and spoilt ones. */
final class Texts {
    private Texts() { }

    /** The 32-bit words that feed wants, padded with zeros to whole twenties of bytes. */
    static int[] words(String text) {
        int[] words = new int[(text.length() + 19) / 20 * 5];
        for (int i = 0; i < text.length(); i++) {
            words[i / 4] |= (text.charAt(i) & 255) << 24 - i % 4 * 8;
        }
        return words;
    }

    static int tell(ElevenBullocks x, String text) {
        x.end(0);
        int[] w = words(text);
        for (int i = 0; i < w.length; i += 5) {
            x.feed(w[i], w[i + 1], w[i + 2], w[i + 3], w[i + 4]);
        }
        x.end(text.length());
        return x.text();
    }

    private static final String[][] NAMES = {
        {"size", "place", "kind", "here", "behind"},
        {"size", "place", "kind", "here", "ahead", "stood", "bucket", "back", "way"},
        {"size", "place", "kind", "here", "done"},
    };
    private static final String[] JUNK = {"pace", "takes", "pays", "stretch", "way", "path", "one", "stray", "send",
        "shut", "open", "split", "minute", "harm", "to", "at", "by", "if", "then", "else", "end", "let", "be", "in",
        "not", "and", "or", "size", "place", "kind", "here", "behind", "ahead", "stood", "bucket", "back", "done",
        "<", "<=", ">", ">=", "=", "#", "+", "-", "*", "/", "(", ")", ";", "a", "b", "z", "A", "Pace", "ab", "0", "1",
        "9", "12", "24", "60", "100", "9999", "10000", "99999999999", "00007", "$", "\t", "\u00e9", "!", "=="};

    static String sum(Random r, int law, int depth, List<String> letters, List<String> out) {
        product(r, law, depth, letters, out);
        while (r.nextInt(3) == 0) {
            out.add(r.nextBoolean() ? "+" : "-");
            product(r, law, depth, letters, out);
        }
        return "";
    }

    private static void product(Random r, int law, int depth, List<String> letters, List<String> out) {
        one(r, law, depth, letters, out);
        while (r.nextInt(5) == 0) {
            out.add(r.nextInt(3) > 0 ? "*" : "/");
            one(r, law, depth, letters, out);
        }
    }

    private static void one(Random r, int law, int depth, List<String> letters, List<String> out) {
        int pick = depth <= 0 ? r.nextInt(5) : r.nextInt(9);
        if (pick < 2) {
            out.add(r.nextInt(8) == 0 ? "" + r.nextInt(10000) : "" + r.nextInt(12));
        } else if (pick < 4) {
            out.add(NAMES[law][r.nextInt(NAMES[law].length)]);
        } else if (pick == 4) {
            out.add(letters.isEmpty() ? "3" : letters.get(r.nextInt(letters.size())));
        } else if (pick == 5) {
            out.add("(");
            sum(r, law, depth - 1, letters, out);
            out.add(")");
        } else if (pick == 6) {
            out.add("-");
            one(r, law, depth - 1, letters, out);
        } else if (pick == 7) {
            out.add("if");
            either(r, law, depth - 1, letters, out);
            out.add("then");
            sum(r, law, depth - 1, letters, out);
            out.add("else");
            sum(r, law, depth - 1, letters, out);
            out.add("end");
        } else {
            String letter = "" + (char) ('a' + r.nextInt(3));
            out.add("let");
            out.add(letter);
            out.add("be");
            sum(r, law, depth - 1, letters, out);
            out.add("in");
            List<String> inner = new ArrayList<>(letters);
            inner.add(letter);
            sum(r, law, depth - 1, inner, out);
            out.add("end");
        }
    }

    private static void either(Random r, int law, int depth, List<String> letters, List<String> out) {
        ask(r, law, depth, letters, out);
        while (r.nextInt(3) == 0) {
            out.add(r.nextBoolean() ? "and" : "or");
            ask(r, law, depth, letters, out);
        }
    }

    private static void ask(Random r, int law, int depth, List<String> letters, List<String> out) {
        if (depth > 0 && r.nextInt(4) == 0) {
            out.add("not");
            ask(r, law, depth - 1, letters, out);
            return;
        }
        sum(r, law, depth - 1, letters, out);
        out.add(new String[] {"<", "<=", ">", ">=", "=", "#"}[r.nextInt(6)]);
        sum(r, law, depth - 1, letters, out);
    }

    /** A sum by chance mostly goes beyond what a law can say: so it is cut to its rest, more often than not. */
    private static void law(Random r, int law, int depth, List<String> out) {
        if (r.nextInt(4) == 0) {
            sum(r, law, depth, new ArrayList<>(), out);
            return;
        }
        String by = new String[] {"3", "11", "101"}[law];
        out.addAll(List.of("let", "q", "be"));
        sum(r, law, depth, new ArrayList<>(), out);
        out.addAll(List.of("in", "if", "q", "<", "0", "then", "-", "q", "else", "q", "end", "-", "q", "/", by, "*", by,
            "end"));
    }

    private static void deed(Random r, List<String> out) {
        String[] deeds = {"stretch", "way", "path", "one", "stray", "send", "shut", "open", "split", "minute"};
        String d = deeds[r.nextInt(deeds.length)];
        out.add(d);
        switch (d) {
            case "stretch": add(out, r.nextInt(4), "harm", r.nextInt(100)); break;
            case "way": case "path": add(out, r.nextInt(8), "to", r.nextInt(8)); break;
            case "one": add(out, r.nextInt(10), "at", r.nextInt(6)); break;
            case "stray": add(out, 1 + r.nextInt(6), "at", r.nextInt(6)); break;
            case "send": add(out, r.nextInt(4), "to", r.nextInt(8)); break;
            case "split": add(out, r.nextInt(4), "by", 1 + r.nextInt(4)); break;
            case "minute": out.add("" + (1 + r.nextInt(r.nextInt(6) == 0 ? 60 : 4))); break;
            default: out.add("" + r.nextInt(8)); break;
        }
    }

    private static void add(List<String> out, int a, String between, int b) {
        out.add("" + a);
        out.add(between);
        out.add("" + b);
    }

    /** A text of at most 300 bytes; spoilt ones have a token or a few put in, out or changed. */
    static String drawn(Random r, boolean spoilt) {
        for (int tries = 0; tries < 100; tries++) {
            List<String> out = new ArrayList<>();
            for (int law = 0; law < 3; law++) {
                if (r.nextInt(3) > 0) {
                    out.add(new String[] {"pace", "takes", "pays"}[law]);
                    law(r, law, r.nextInt(spoilt ? 8 : 4), out);
                    out.add(";");
                }
            }
            int deeds = r.nextInt(4) == 0 ? r.nextInt(26) : r.nextInt(6);
            for (int i = 0; i < deeds; i++) {
                deed(r, out);
                out.add(";");
            }
            for (int i = spoilt ? 1 + r.nextInt(2) : 0; i > 0; i--) {
                spoil(r, out);
            }
            String text = joined(r, out);
            if (text.length() <= 300) {
                return text;
            }
        }
        return "pace 1;";
    }

    private static void spoil(Random r, List<String> out) {
        int at = out.isEmpty() ? 0 : r.nextInt(out.size());
        int how = r.nextInt(6);
        if (out.isEmpty() || how == 0) {
            out.add(at, JUNK[r.nextInt(JUNK.length)]);
        } else if (how == 1) {
            out.remove(at);
        } else if (how == 2) {
            while (out.size() > at) {
                out.remove(out.size() - 1);
            }
        } else if (how == 3) {
            for (int i = r.nextInt(12); i > 0; i--) {
                out.add(at, new String[] {"(", "-", "not", "if", "let"}[r.nextInt(r.nextBoolean() ? 2 : 5)]);
            }
        } else {
            out.set(at, JUNK[r.nextInt(JUNK.length)]);
        }
    }

    private static String joined(Random r, List<String> out) {
        StringBuilder text = new StringBuilder();
        boolean tight = r.nextBoolean();
        for (String token : out) {
            boolean needs = text.length() > 0 && Character.isLetterOrDigit(text.charAt(text.length() - 1))
                && Character.isLetterOrDigit(token.charAt(0));
            if (needs || !tight) {
                text.append(r.nextInt(10) == 0 ? '\n' : ' ');
            }
            text.append(token);
        }
        if (r.nextInt(8) == 0) {
            text.append("  ");
        }
        return text.toString();
    }
}
