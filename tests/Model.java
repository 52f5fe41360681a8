import java.math.BigInteger;
import java.util.ArrayDeque;
import java.util.ArrayList;
import java.util.Arrays;
import java.util.HashMap;
import java.util.HashSet;
import java.util.List;
import java.util.Map;
import java.util.Set;

/**
 * The document once more, written as slowly and plainly as can be (trees, sets, big fractions, all orders),
 * so that ModelTest can hold the class against it. It shares no line with the class.
 */
final class Model {
    static final int NONE = -1;

    static final class FaultFound extends RuntimeException {
        final int kind;
        final int place;

        FaultFound(int kind, int place) {
            this.kind = kind;
            this.place = place;
        }
    }

    record Stretch(int kind, int harm) { }

    record Way(int one, int other, boolean path) {
        boolean touches(int s) {
            return one == s || other == s;
        }

        int across(int s) {
            return one == s ? other : one;
        }
    }

    record Person(int nerve, boolean wheels, boolean bucket, int told) { }

    record Sight(int stretch, int t) { }

    record Try(int how, boolean turned) { }

    record Mend(int o, int p, int h, int n) { }

    /** What a step can change. */
    static final class Dyn {
        int[] size = new int[4];
        int[] place = {NONE, NONE, NONE, NONE};
        int[] came = {NONE, NONE, NONE, NONE};
        List<Integer> at = new ArrayList<>();
        List<Integer> sent = new ArrayList<>();
        Set<Integer> shut = new HashSet<>();
        int[] done = new int[12];
        int minute;
        int x = 41;

        Dyn copy() {
            Dyn d = new Dyn();
            d.size = size.clone();
            d.place = place.clone();
            d.came = came.clone();
            d.at = new ArrayList<>(at);
            d.sent = new ArrayList<>(sent);
            d.shut = new HashSet<>(shut);
            d.done = done.clone();
            d.minute = minute;
            d.x = x;
            return d;
        }
    }

    /** All that an image keeps. */
    static final class All {
        List<Stretch> stretches = new ArrayList<>();
        List<Way> ways = new ArrayList<>();
        List<Person> people = new ArrayList<>();
        List<Text> texts = new ArrayList<>();
        int ruling = NONE;
        Dyn dyn = new Dyn();
        List<Dyn> steps = new ArrayList<>();
        List<Sight> sights = new ArrayList<>();
        List<Try> tries = new ArrayList<>();
        Map<Integer, Mend> mends = new HashMap<>();

        All copy() {
            All a = new All();
            a.stretches.addAll(stretches);
            a.ways.addAll(ways);
            a.people.addAll(people);
            a.texts.addAll(texts);
            a.ruling = ruling;
            a.dyn = dyn.copy();
            for (Dyn d : steps) {
                a.steps.add(d.copy());
            }
            a.sights.addAll(sights);
            a.tries.addAll(tries);
            a.mends.putAll(mends);
            return a;
        }
    }

    // ---- texts

    static final class Text {
        Map<String, Node> laws = new HashMap<>();
        List<String[]> clauses = new ArrayList<>();
    }

    interface Node {
        int ask(Map<String, Integer> env);
    }

    interface Cond {
        boolean ask(Map<String, Integer> env);
    }

    static int lim(long v) {
        return v > 1000000 ? 1000000 : v < -1000000 ? -1000000 : (int) v;
    }

    record Tok(String s, int at) { }

    static List<Tok> tokens(int[] b) {
        List<Tok> toks = new ArrayList<>();
        int i = 0;
        while (i < b.length) {
            int c = b[i];
            if (c == 32 || c == 10) {
                i++;
                continue;
            }
            int from = i;
            StringBuilder sb = new StringBuilder();
            if (c < 128 && Character.isLetter(c)) {
                while (i < b.length && b[i] < 128 && Character.isLetter(b[i])) {
                    sb.append((char) b[i++]);
                }
            } else if (c < 128 && Character.isDigit(c)) {
                while (i < b.length && b[i] < 128 && Character.isDigit(b[i])) {
                    sb.append((char) b[i++]);
                }
            } else {
                sb.append((char) b[i++]);
                if ((c == '<' || c == '>') && i < b.length && b[i] == '=') {
                    sb.append((char) b[i++]);
                }
            }
            toks.add(new Tok(sb.toString(), from));
        }
        toks.add(new Tok("", b.length));
        return toks;
    }

    static final Map<String, List<String>> NAMES = Map.of(
        "pace", List.of("size", "place", "kind", "here", "behind"),
        "takes", List.of("size", "place", "kind", "here", "ahead", "stood", "bucket", "back", "way"),
        "pays", List.of("size", "place", "kind", "here", "done"));
    static final List<String> ALL_NAMES = List.of("size", "place", "kind", "here", "behind", "ahead", "stood",
        "bucket", "back", "way", "done");

    static final class Parser {
        final List<Tok> toks;
        int i;
        String law;
        final ArrayDeque<Integer> open = new ArrayDeque<>();
        final ArrayList<String> bound = new ArrayList<>();

        Parser(int[] bytes) {
            toks = tokens(bytes);
        }

        String s() {
            return toks.get(i).s();
        }

        FaultFound bad(int kind) {
            return new FaultFound(kind, toks.get(i).at());
        }

        void need(String word) {
            if (!s().equals(word)) {
                throw bad(1);
            }
            i++;
        }

        int number(int lo, int hi) {
            if (s().isEmpty() || !Character.isDigit(s().charAt(0))) {
                throw bad(1);
            }
            BigInteger v = new BigInteger(s());
            if (v.compareTo(BigInteger.valueOf(lo)) < 0 || v.compareTo(BigInteger.valueOf(hi)) > 0) {
                throw bad(2);
            }
            i++;
            return v.intValue();
        }

        Text text() {
            Text t = new Text();
            while (i < toks.size() - 1) {
                String w = s();
                List<String> starts = List.of("pace", "takes", "pays", "stretch", "way", "path", "one", "stray", "send",
                    "shut", "open", "split", "minute");
                if (!starts.contains(w)) {
                    throw bad(1);
                }
                if (t.laws.containsKey(w)) {
                    throw bad(4);
                }
                if (t.clauses.size() == 24) {
                    throw bad(6);
                }
                i++;
                if (NAMES.containsKey(w)) {
                    law = w;
                    t.laws.put(w, sum());
                    t.clauses.add(new String[] {w});
                } else {
                    t.clauses.add(deed(w));
                }
                need(";");
            }
            return t;
        }

        String[] deed(String w) {
            int a;
            int b = 0;
            switch (w) {
                case "stretch": a = number(0, 3); need("harm"); b = number(0, 99); break;
                case "way": case "path": a = number(0, 11); need("to"); b = number(0, 11); break;
                case "one": a = number(0, 9); need("at"); b = number(0, 11); break;
                case "stray": a = number(1, 24); need("at"); b = number(0, 11); break;
                case "send": a = number(0, 5); need("to"); b = number(0, 11); break;
                case "shut": case "open": a = number(0, 15); break;
                case "split": a = number(0, 3); need("by"); b = number(1, 24); break;
                default: a = number(1, 60); break;
            }
            return new String[] {w, "" + a, "" + b};
        }

        void push() {
            if (open.size() == 8) {
                throw bad(3);
            }
            open.push(i);
            i++;
        }

        Node sum() {
            Node left = product();
            while (s().equals("+") || s().equals("-")) {
                boolean plus = s().equals("+");
                i++;
                Node l = left;
                Node r = product();
                left = plus ? e -> lim((long) l.ask(e) + r.ask(e)) : e -> lim((long) l.ask(e) - r.ask(e));
            }
            return left;
        }

        Node product() {
            Node left = one();
            while (s().equals("*") || s().equals("/")) {
                boolean times = s().equals("*");
                i++;
                Node l = left;
                Node r = one();
                left = times ? e -> lim((long) l.ask(e) * r.ask(e)) : e -> {
                    int d = r.ask(e);
                    return d == 0 ? 0 : l.ask(e) / d;
                };
            }
            return left;
        }

        Node one() {
            String t = s();
            if (!t.isEmpty() && Character.isDigit(t.charAt(0))) {
                int v = number(0, 9999);
                return e -> v;
            }
            if (t.equals("(")) {
                push();
                Node in = sum();
                need(")");
                open.pop();
                return in;
            }
            if (t.equals("-")) {
                push();
                Node in = one();
                open.pop();
                return e -> lim(-(long) in.ask(e));
            }
            if (t.equals("if")) {
                push();
                Cond c = either();
                need("then");
                Node a = sum();
                need("else");
                Node b = sum();
                need("end");
                open.pop();
                return e -> c.ask(e) ? a.ask(e) : b.ask(e);
            }
            if (t.equals("let")) {
                push();
                String letter = s();
                if (!letter.matches("[a-z]")) {
                    throw bad(1);
                }
                i++;
                need("be");
                Node what = sum();
                need("in");
                bound.add(letter);
                Node in = sum();
                bound.remove(bound.size() - 1);
                need("end");
                open.pop();
                return e -> {
                    Map<String, Integer> inner = new HashMap<>(e);
                    inner.put(letter, what.ask(e));
                    return in.ask(inner);
                };
            }
            if (t.matches("[a-z]")) {
                if (!bound.contains(t)) {
                    throw bad(5);
                }
            } else if (!ALL_NAMES.contains(t)) {
                throw bad(1);
            } else if (!NAMES.get(law).contains(t)) {
                throw bad(5);
            }
            i++;
            return e -> lim(e.get(t));
        }

        Cond either() {
            Cond left = both();
            while (s().equals("or")) {
                i++;
                Cond l = left;
                Cond r = both();
                left = e -> l.ask(e) | r.ask(e);
            }
            return left;
        }

        Cond both() {
            Cond left = ask();
            while (s().equals("and")) {
                i++;
                Cond l = left;
                Cond r = ask();
                left = e -> l.ask(e) & r.ask(e);
            }
            return left;
        }

        Cond ask() {
            if (s().equals("not")) {
                push();
                Cond in = ask();
                open.pop();
                return e -> !in.ask(e);
            }
            Node l = sum();
            String op = s();
            if (!List.of("<", "<=", ">", ">=", "=", "#").contains(op)) {
                throw bad(1);
            }
            i++;
            Node r = sum();
            return e -> {
                int c = Integer.compare(l.ask(e), r.ask(e));
                switch (op) {
                    case "<": return c < 0;
                    case "<=": return c <= 0;
                    case ">": return c > 0;
                    case ">=": return c >= 0;
                    case "=": return c == 0;
                    default: return c != 0;
                }
            };
        }
    }

    // ---- the object

    All a = new All();
    All image = new All();
    List<Integer> tape = new ArrayList<>();
    Integer faultKind;
    int faultPlace;

    boolean isStretch(int s) {
        return s >= 0 && s < a.stretches.size();
    }

    boolean isGate(int w) {
        return w >= 0 && w < a.ways.size() && !a.ways.get(w).path();
    }

    boolean isPerson(int p) {
        return p >= 0 && p < a.people.size();
    }

    boolean isBunch(int b) {
        return b >= 0 && b < 4 && a.dyn.size[b] > 0;
    }

    void step() {
        a.steps.add(a.dyn.copy());
        if (a.steps.size() > 30) {
            a.steps.remove(0);
        }
    }

    int stretch(int kind, int harm) {
        if (kind < 0 || kind > 3 || harm < 0 || harm > 99 || a.stretches.size() == 12) {
            return NONE;
        }
        a.stretches.add(new Stretch(kind, harm));
        return a.stretches.size() - 1;
    }

    long waysAt(int s) {
        return a.ways.stream().filter(w -> w.touches(s)).count();
    }

    int way(int one, int other, boolean path) {
        if (!isStretch(one) || !isStretch(other) || one == other || a.ways.size() == 16 || waysAt(one) == 4
            || waysAt(other) == 4) {
            return NONE;
        }
        a.ways.add(new Way(one, other, path));
        return a.ways.size() - 1;
    }

    int person(int nerve, boolean wheels, boolean bucket, int at) {
        if (nerve < 0 || nerve > 9 || !isStretch(at) || a.people.size() == 6) {
            return NONE;
        }
        a.people.add(new Person(nerve, wheels, bucket, at));
        a.dyn.at.add(at);
        a.dyn.sent.add(NONE);
        return a.people.size() - 1;
    }

    int feed(int... five) {
        if (tape.size() > 280) {
            return NONE;
        }
        for (int v : five) {
            for (int k = 3; k >= 0; k--) {
                tape.add(v >> 8 * k & 255);
            }
        }
        return tape.size();
    }

    int end(int n) {
        if (n < 0 || n > tape.size()) {
            return NONE;
        }
        tape = new ArrayList<>(tape.subList(0, n));
        return n;
    }

    int text() {
        if (a.texts.size() == 4) {
            return NONE;
        }
        int[] bytes = tape.stream().mapToInt(v -> v).toArray();
        tape.clear();
        try {
            Text t = new Parser(bytes).text();
            faultKind = 0;
            faultPlace = NONE;
            a.texts.add(t);
            return a.texts.size() - 1;
        } catch (FaultFound f) {
            faultKind = f.kind;
            faultPlace = f.place;
            return NONE;
        }
    }

    int fault(int what) {
        if (faultKind == null || what < 0 || what > 1) {
            return NONE;
        }
        return what == 0 ? faultKind : faultPlace;
    }

    boolean by(int text) {
        if (text < NONE || text >= a.texts.size()) {
            return false;
        }
        a.ruling = text;
        return true;
    }

    int lowestFree() {
        for (int b = 0; b < 4; b++) {
            if (a.dyn.size[b] == 0) {
                return b;
            }
        }
        return NONE;
    }

    int stray(int n, int at) {
        if (n < 1 || n > 24 || !isStretch(at) || Arrays.stream(a.dyn.size).sum() + n > 24 || lowestFree() == NONE) {
            return NONE;
        }
        step();
        int b = lowestFree();
        a.dyn.size[b] = n;
        a.dyn.place[b] = at;
        a.dyn.came[b] = NONE;
        return b;
    }

    int allDone() {
        return Arrays.stream(a.dyn.done).sum();
    }

    int minute(int n) {
        if (n < 1 || n > 60 || a.dyn.minute + n > 999) {
            return NONE;
        }
        for (int i = 0; i < n; i++) {
            step();
            pass();
        }
        return allDone();
    }

    boolean send(int p, int to) {
        if (!isPerson(p) || to != NONE && !isStretch(to) || a.dyn.sent.get(p) == to) {
            return false;
        }
        step();
        a.dyn.sent.set(p, to);
        return true;
    }

    boolean gate(int w, boolean open) {
        if (!isGate(w) || a.dyn.shut.contains(w) == !open) {
            return false;
        }
        step();
        if (open) {
            a.dyn.shut.remove(w);
        } else {
            a.dyn.shut.add(w);
        }
        return true;
    }

    int split(int b, int n) {
        if (!isBunch(b) || n < 1 || n >= a.dyn.size[b] || lowestFree() == NONE) {
            return NONE;
        }
        step();
        int f = lowestFree();
        a.dyn.size[b] -= n;
        a.dyn.size[f] = n;
        a.dyn.place[f] = a.dyn.place[b];
        a.dyn.came[f] = a.dyn.came[b];
        return f;
    }

    int played(int text) {
        if (text < 0 || text >= a.texts.size()) {
            return -2;
        }
        List<String[]> clauses = a.texts.get(text).clauses;
        for (int i = 0; i < clauses.size(); i++) {
            if (!play(clauses.get(i))) {
                return i;
            }
        }
        return NONE;
    }

    boolean play(String[] c) {
        if (c.length == 1) {
            return true;
        }
        int x = Integer.parseInt(c[1]);
        int y = Integer.parseInt(c[2]);
        switch (c[0]) {
            case "stretch": return stretch(x, y) != NONE;
            case "way": return way(x, y, false) != NONE;
            case "path": return way(x, y, true) != NONE;
            case "one": return person(x, false, false, y) != NONE;
            case "stray": return stray(x, y) != NONE;
            case "send": return send(x, y);
            case "shut": return gate(x, false);
            case "open": return gate(x, true);
            case "split": return split(x, y) != NONE;
            default:
                for (int i = 0; i < x; i++) {
                    if (minute(1) == NONE) {
                        return false;
                    }
                }
                return true;
        }
    }

    int day(int seed, int n) {
        if (seed < 0 || seed > 9999 || n < 1 || n > 30 || a.ways.isEmpty()) {
            return NONE;
        }
        step();
        a.dyn.x = seed * 3 + 41;
        for (int i = 0; i < n; i++) {
            int x = a.dyn.x;
            if (x % 5 == 0) {
                int w = x % a.ways.size();
                if (!a.ways.get(w).path() && !a.dyn.shut.remove(w)) {
                    a.dyn.shut.add(w);
                }
            } else if (x % 5 == 1) {
                if (!a.people.isEmpty()) {
                    a.dyn.sent.set(x % a.people.size(), x % a.stretches.size());
                }
            } else if (a.dyn.minute < 999) {
                pass();
            }
            a.dyn.x = anew(a.dyn.x);
        }
        return allDone();
    }

    static int anew(int x) {
        return BigInteger.valueOf(x).multiply(BigInteger.valueOf(239)).add(BigInteger.valueOf(137))
            .mod(BigInteger.valueOf(30203)).intValue();
    }

    int undo() {
        if (a.steps.isEmpty()) {
            return NONE;
        }
        a.dyn = a.steps.remove(a.steps.size() - 1).copy();
        for (int p = a.dyn.at.size(); p < a.people.size(); p++) {
            a.dyn.at.add(a.people.get(p).told());
            a.dyn.sent.add(NONE);
        }
        return a.steps.size();
    }

    /** Fewest ways from one stretch to each, NONE for those that can't be come to. */
    int[] far(int from, boolean paths) {
        int[] d = new int[a.stretches.size()];
        Arrays.fill(d, NONE);
        d[from] = 0;
        ArrayDeque<Integer> q = new ArrayDeque<>(List.of(from));
        while (!q.isEmpty()) {
            int s = q.poll();
            for (Way w : a.ways) {
                if (w.touches(s) && (paths || !w.path()) && d[w.across(s)] == NONE) {
                    d[w.across(s)] = d[s] + 1;
                    q.add(w.across(s));
                }
            }
        }
        return d;
    }

    void pass() {
        Dyn d = a.dyn;
        for (int p = 0; p < a.people.size(); p++) {
            for (int go = 0; go < (a.people.get(p).wheels() ? 2 : 1); go++) {
                int to = d.sent.get(p);
                int at = d.at.get(p);
                if (to == NONE || to == at) {
                    continue;
                }
                int[] far = far(to, true);
                if (far[at] == NONE) {
                    continue;
                }
                for (int s = 0; s < a.stretches.size(); s++) {
                    int side = s;
                    if (far[s] == far[at] - 1 && a.ways.stream().anyMatch(w -> w.touches(at) && w.across(at) == side)) {
                        d.at.set(p, s);
                        break;
                    }
                }
            }
        }
        for (int b = 0; b < 4; b++) {
            if (d.size[b] > 0) {
                int pace = pace(b);
                for (int m = 0; m < pace; m++) {
                    move(b);
                }
            }
        }
        for (int b = 0; b < 4; b++) {
            if (d.size[b] > 0) {
                d.done[d.place[b]] += d.size[b] * a.stretches.get(d.place[b]).harm();
            }
        }
        for (int b = 3; b > 0; b--) {
            for (int lower = 0; lower < b; lower++) {
                if (d.size[b] > 0 && d.size[lower] > 0 && d.place[b] == d.place[lower]) {
                    d.size[lower] += d.size[b];
                    d.size[b] = 0;
                    d.place[b] = NONE;
                    d.came[b] = NONE;
                }
            }
        }
        d.minute++;
    }

    void move(int b) {
        Dyn d = a.dyn;
        for (int w = 0; w < a.ways.size(); w++) {
            Way way = a.ways.get(w);
            if (!way.touches(d.place[b]) || way.path() || d.shut.contains(w)) {
                continue;
            }
            int t = chance(b, d.place[b], d.came[b], w, Set.of(), 0);
            boolean taken = t == 10;
            if (t > 0 && t < 10) {
                taken = d.x % 10 < t;
                d.x = anew(d.x);
            }
            if (taken) {
                d.came[b] = d.place[b];
                d.place[b] = way.across(d.place[b]);
                return;
            }
        }
    }

    Node law(String name) {
        return a.ruling == NONE ? null : a.texts.get(a.ruling).laws.get(name);
    }

    int countAt(int s, Set<Integer> more) {
        return (int) a.dyn.at.stream().filter(v -> v == s).count() + (more.contains(s) ? 1 : 0);
    }

    Map<String, Integer> common(int size, int place, Set<Integer> more) {
        Map<String, Integer> e = new HashMap<>();
        e.put("size", size);
        e.put("place", place);
        e.put("kind", a.stretches.get(place).kind());
        e.put("here", countAt(place, more));
        return e;
    }

    int pace(int b) {
        Node law = law("pace");
        if (law == null) {
            return 1;
        }
        Map<String, Integer> e = common(a.dyn.size[b], a.dyn.place[b], Set.of());
        e.put("behind", a.dyn.came[b] == NONE ? 0 : countAt(a.dyn.came[b], Set.of()));
        return Math.max(0, Math.min(2, law.ask(e)));
    }

    int chance(int b, int place, int came, int w, Set<Integer> more, int nerve) {
        int there = a.ways.get(w).across(place);
        int stood = more.contains(there) ? nerve : 0;
        int buckets = 0;
        for (int p = 0; p < a.people.size(); p++) {
            if (a.dyn.at.get(p) == there) {
                stood += a.people.get(p).nerve();
                buckets += a.people.get(p).bucket() ? 1 : 0;
            }
        }
        Node law = law("takes");
        if (law == null) {
            return stood > 0 ? 0 : 5;
        }
        Map<String, Integer> e = common(a.dyn.size[b], place, more);
        e.put("ahead", a.stretches.get(there).kind());
        e.put("stood", stood);
        e.put("bucket", buckets);
        e.put("back", came == there ? 1 : 0);
        e.put("way", w);
        return Math.max(0, Math.min(10, law.ask(e)));
    }

    int bunch(int b, int what) {
        if (b < 0 || b > 3 || what < 0 || what > 3) {
            return -2;
        }
        if (what == 0) {
            return a.dyn.size[b];
        }
        if (a.dyn.size[b] == 0) {
            return NONE;
        }
        return what == 1 ? a.dyn.place[b] : what == 2 ? a.dyn.came[b] : pace(b);
    }

    int ofPerson(int p, int what) {
        if (!isPerson(p) || what < 0 || what > 4) {
            return -2;
        }
        Person q = a.people.get(p);
        return new int[] {q.nerve(), q.wheels() ? 1 : 0, q.bucket() ? 1 : 0, a.dyn.at.get(p), a.dyn.sent.get(p)}[what];
    }

    int ofStretch(int s, int what) {
        if (!isStretch(s) || what < 0 || what > 3) {
            return NONE;
        }
        int bits = 0;
        for (int w = 0; w < a.ways.size(); w++) {
            bits += a.ways.get(w).touches(s) ? 1 << w : 0;
        }
        return new int[] {a.stretches.get(s).kind(), a.stretches.get(s).harm(), a.dyn.done[s], bits}[what];
    }

    int ofWay(int w, int what) {
        if (w < 0 || w >= a.ways.size() || what < 0 || what > 3) {
            return NONE;
        }
        Way y = a.ways.get(w);
        return new int[] {y.one(), y.other(), y.path() ? 1 : 0, a.dyn.shut.contains(w) ? 0 : 1}[what];
    }

    int takes(int b, int w) {
        if (!isBunch(b) || !isGate(w) || !a.ways.get(w).touches(a.dyn.place[b])) {
            return NONE;
        }
        return a.dyn.shut.contains(w) ? 0 : chance(b, a.dyn.place[b], a.dyn.came[b], w, Set.of(), 0);
    }

    static long part(BigInteger up, BigInteger down, boolean low) {
        BigInteger g = up.gcd(down);
        return (low ? down : up).divide(g).longValueExact();
    }

    long where(int b, int n, int stretch, boolean low) {
        if (!isBunch(b) || n < 0 || n > 4 || !isStretch(stretch)) {
            return NONE;
        }
        BigInteger up = paths(b, a.dyn.place[b], a.dyn.came[b], n, stretch);
        return part(up, BigInteger.TEN.pow(16 * n), low);
    }

    /** Out of ten to the power of 16 * n, one factor of ten for each way that there may be. */
    BigInteger paths(int b, int place, int came, int n, int goal) {
        if (n == 0) {
            return place == goal ? BigInteger.ONE : BigInteger.ZERO;
        }
        BigInteger sum = BigInteger.ZERO;
        BigInteger left = BigInteger.TEN.pow(16);
        for (int w = 0; w < a.ways.size(); w++) {
            if (!a.ways.get(w).touches(place) || a.ways.get(w).path() || a.dyn.shut.contains(w)) {
                continue;
            }
            int t = chance(b, place, came, w, Set.of(), 0);
            BigInteger taken = left.multiply(BigInteger.valueOf(t)).divide(BigInteger.TEN);
            if (taken.signum() > 0) {
                sum = sum.add(taken.multiply(paths(b, a.ways.get(w).across(place), place, n - 1, goal)));
            }
            left = left.subtract(taken);
        }
        return left.signum() == 0 ? sum : sum.add(left.multiply(paths(b, place, came, n - 1, goal)));
    }

    void roam(int b, int place, int came, Set<Integer> shut, Set<Integer> more, int nerve, Set<List<Integer>> met) {
        if (!met.add(List.of(place, came))) {
            return;
        }
        for (int w = 0; w < a.ways.size(); w++) {
            if (!a.ways.get(w).touches(place) || a.ways.get(w).path() || a.dyn.shut.contains(w) || shut.contains(w)) {
                continue;
            }
            int t = chance(b, place, came, w, more, nerve);
            if (t > 0) {
                roam(b, a.ways.get(w).across(place), place, shut, more, nerve, met);
            }
            if (t == 10) {
                return;
            }
        }
    }

    int come(int b, Set<Integer> shut, Set<Integer> more, int nerve) {
        Set<List<Integer>> met = new HashSet<>();
        roam(b, a.dyn.place[b], a.dyn.came[b], shut, more, nerve, met);
        int bits = 0;
        for (List<Integer> m : met) {
            bits |= 1 << m.get(0);
        }
        return bits;
    }

    int canCome(int b) {
        return isBunch(b) ? come(b, Set.of(), Set.of(), 0) : NONE;
    }

    boolean hits(int bits, int kind) {
        for (int s = 0; s < a.stretches.size(); s++) {
            if ((bits >> s & 1) == 1 && a.stretches.get(s).kind() == kind) {
                return true;
            }
        }
        return false;
    }

    static Set<Integer> setOf(int bits) {
        Set<Integer> set = new HashSet<>();
        for (int i = 0; i < 31; i++) {
            if ((bits >> i & 1) == 1) {
                set.add(i);
            }
        }
        return set;
    }

    int stopped(int b, int nerve) {
        if (!isBunch(b) || nerve < 0 || nerve > 9) {
            return NONE;
        }
        int best = NONE;
        for (int bits = (1 << a.stretches.size()) - 1; bits >= 0; bits--) {
            int n = Integer.bitCount(bits);
            if (n <= 3 && (bits >> a.dyn.place[b] & 1) == 0 && (best == NONE || n <= Integer.bitCount(best))
                && !hits(come(b, Set.of(), setOf(bits), nerve), 2)) {
                best = bits;
            }
        }
        return best;
    }

    int home(int b) {
        if (!isBunch(b)) {
            return NONE;
        }
        int best = NONE;
        for (int bits = (1 << a.ways.size()) - 1; bits >= 0; bits--) {
            int n = Integer.bitCount(bits);
            if (n > 3 || best != NONE && n > Integer.bitCount(best)
                || !setOf(bits).stream().allMatch(w -> isGate(w) && !a.dyn.shut.contains(w))) {
                continue;
            }
            int come = come(b, setOf(bits), Set.of(), 0);
            if (hits(come, 3) && !hits(come, 1) && !hits(come, 2)) {
                best = bits;
            }
        }
        return best;
    }

    int minutes(int p, int from, int to) {
        int d = far(from, true)[to];
        return d == NONE || !a.people.get(p).wheels() ? d : d / 2 + d % 2;
    }

    int soon(int p, int s) {
        return isPerson(p) && isStretch(s) ? minutes(p, a.dyn.at.get(p), s) : NONE;
    }

    static void orders(List<Integer> of, int n, List<Integer> so, List<List<Integer>> all) {
        if (so.size() == n) {
            all.add(new ArrayList<>(so));
            return;
        }
        for (int v : of) {
            if (!so.contains(v)) {
                so.add(v);
                orders(of, n, so, all);
                so.remove(so.size() - 1);
            }
        }
    }

    static List<Integer> listOf(int bits) {
        return setOf(bits).stream().sorted().toList();
    }

    int whom(int people, int stretches, int stretch) {
        if (people < 0 || people >= 1 << a.people.size() || stretches < 0 || stretches >= 1 << a.stretches.size()
            || stretch < NONE || stretch >= 0 && !setOf(stretches).contains(stretch)) {
            return NONE;
        }
        List<Integer> goals = listOf(stretches);
        if (goals.isEmpty()) {
            return NONE;
        }
        List<List<Integer>> all = new ArrayList<>();
        if (goals.size() <= Integer.bitCount(people)) {
            orders(listOf(people), goals.size(), new ArrayList<>(), all);
        }
        int least = Integer.MAX_VALUE;
        List<Integer> best = null;
        for (List<Integer> o : all) {
            int last = 0;
            for (int i = 0; i < goals.size(); i++) {
                int m = soon(o.get(i), goals.get(i));
                last = Math.max(last, m == NONE ? Integer.MAX_VALUE : m);
            }
            if (last < least) {
                least = last;
                best = o;
            }
        }
        if (best == null) {
            return NONE;
        }
        return stretch == NONE ? least : best.get(goals.indexOf(stretch));
    }

    int seen(int s, int t) {
        if (s == NONE) {
            a.sights.clear();
            return 0;
        }
        if (!isStretch(s) || t < 0 || t > 60 || a.sights.size() == 6) {
            return -2;
        }
        a.sights.add(new Sight(s, t));
        return a.sights.size();
    }

    int which() {
        int bits = 0;
        for (int w = 0; w < a.ways.size(); w++) {
            Way y = a.ways.get(w);
            for (int inside : new int[] {y.one(), y.other()}) {
                int out = y.across(inside);
                if (!y.path() && a.stretches.get(inside).kind() == 3 && a.stretches.get(out).kind() != 3) {
                    int[] far = far(out, false);
                    if (a.sights.stream().allMatch(g -> far[g.stretch()] != NONE && far[g.stretch()] <= g.t())) {
                        bits |= 1 << w;
                    }
                }
            }
        }
        return bits;
    }

    static BigInteger binomial(int n, int k) {
        if (k < 0 || k > n) {
            return BigInteger.ZERO;
        }
        return k == 0 || k == n ? BigInteger.ONE : binomial(n - 1, k - 1).add(binomial(n - 1, k));
    }

    /** Times ten to the power of 12. */
    static BigInteger chanceToCount(int n, int c, int m) {
        if (c > n) {
            return BigInteger.ZERO;
        }
        return binomial(n, c).multiply(BigInteger.valueOf(10 - m).pow(c)).multiply(BigInteger.valueOf(m).pow(n - c))
            .multiply(BigInteger.TEN.pow(12 - n));
    }

    long many(int m, int c, int k, boolean low) {
        if (m < 0 || m > 9 || c < 0 || c > 12 || k < 0 || k > 12) {
            return NONE;
        }
        BigInteger all = BigInteger.ZERO;
        for (int n = 0; n <= 12; n++) {
            all = all.add(chanceToCount(n, c, m));
        }
        return part(chanceToCount(k, c, m), all, low);
    }

    int after(int p, int i) {
        if (!isPerson(p) || i < NONE) {
            return NONE;
        }
        List<Integer> bunches = new ArrayList<>();
        for (int b = 0; b < 4; b++) {
            if (a.dyn.size[b] > 0) {
                bunches.add(b);
            }
        }
        if (bunches.isEmpty() || i >= bunches.size()) {
            return NONE;
        }
        List<List<Integer>> all = new ArrayList<>();
        orders(bunches, bunches.size(), new ArrayList<>(), all);
        long least = Long.MAX_VALUE;
        List<Integer> best = null;
        for (List<Integer> o : all) {
            long harm = 0;
            int t = 0;
            int at = a.dyn.at.get(p);
            for (int b : o) {
                int m = minutes(p, at, a.dyn.place[b]);
                if (m == NONE) {
                    return NONE;
                }
                t += m;
                at = a.dyn.place[b];
                harm += (long) t * a.dyn.size[b] * a.stretches.get(at).harm();
            }
            if (harm < least) {
                least = harm;
                best = o;
            }
        }
        return i == NONE ? (int) least : best.get(i);
    }

    int pays(int s, int text) {
        if (!isStretch(s) || text < NONE || text >= a.texts.size()) {
            return NONE;
        }
        Node law = text == NONE ? null : a.texts.get(text).laws.get("pays");
        int share = 100;
        if (law != null) {
            Map<String, Integer> e = common(0, s, Set.of());
            e.put("done", a.dyn.done[s]);
            share = Math.max(0, Math.min(100, law.ask(e)));
        }
        return (int) ((long) a.dyn.done[s] * share / 100);
    }

    int cheapest() {
        int best = NONE;
        long least = Long.MAX_VALUE;
        for (int t = NONE; t < a.texts.size(); t++) {
            long cost = 0;
            for (int s = 0; s < a.stretches.size(); s++) {
                cost += a.stretches.get(s).kind() == 1 ? pays(s, t) : 0;
            }
            if (cost < least) {
                least = cost;
                best = t;
            }
        }
        return best;
    }

    boolean mending(int w, int o, int p, int h, int n) {
        if (!isGate(w) || o < 0 || o > 10 || p < 0 || p > 999 || h < 0 || h > 999 || n < 1 || n > 99) {
            return false;
        }
        a.mends.put(w, new Mend(o, p, h, n));
        return true;
    }

    int saved(int w) {
        if (w == NONE) {
            int best = NONE;
            int most = 0;
            for (int g = 0; g < 16; g++) {
                if (a.mends.containsKey(g) && saved(g) > most) {
                    most = saved(g);
                    best = g;
                }
            }
            return best;
        }
        Mend m = a.mends.get(w);
        return m == null ? -10000 : m.h() * m.o() * m.n() / 10 - m.p();
    }

    int tried(int how, boolean turned) {
        if (how == NONE) {
            a.tries.clear();
            return 0;
        }
        if (how < 0 || how > 3 || a.tries.size() == 12) {
            return -2;
        }
        a.tries.add(new Try(how, turned));
        return a.tries.size();
    }

    int tries(int how, boolean turnedOnly) {
        return (int) a.tries.stream().filter(t -> t.how() == how && (t.turned() || !turnedOnly)).count();
    }

    int turned(int how, boolean low) {
        if (how < 0 || how > 3 || tries(how, false) == 0) {
            return NONE;
        }
        return (int) part(BigInteger.valueOf(tries(how, true)), BigInteger.valueOf(tries(how, false)), low);
    }

    int best() {
        int best = NONE;
        for (int h = 3; h >= 0; h--) {
            int n = tries(h, false);
            if (n == 0) {
                continue;
            }
            if (best == NONE) {
                best = h;
                continue;
            }
            double mine = tries(h, true) / (double) n;
            double its = tries(best, true) / (double) tries(best, false);
            if (mine > its + 1e-9 || Math.abs(mine - its) < 1e-9 && n >= tries(best, false)) {
                best = h;
            }
        }
        return best;
    }

    int image() {
        image = a.copy();
        return a.dyn.minute;
    }

    int back() {
        a = image.copy();
        return a.dyn.minute;
    }

    int about(int what) {
        if (what < 0 || what > 12) {
            return -2;
        }
        return new int[] {a.stretches.size(), a.ways.size(), a.people.size(), a.dyn.minute,
            Arrays.stream(a.dyn.size).sum(), allDone(), a.dyn.x, a.texts.size(), a.ruling, a.steps.size(),
            a.sights.size(), a.tries.size(), tape.size()}[what];
    }
}
