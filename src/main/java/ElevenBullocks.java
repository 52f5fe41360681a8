import java.util.Arrays;

/** Eleven bullocks in the lane, and all that is told, done and asked about them. */
public final class ElevenBullocks {

    public static final int NONE = -1;

    /** What a call answers for wrong arguments where NONE has a meaning of its own. */
    private static final int OTHERS = -2;
    private static final int UNTOLD = -10000;

    private static final int MOST_STRETCHES = 12;
    private static final int MOST_WAYS = 16;
    private static final int MOST_AT_ONE = 4;
    private static final int MOST_BUNCHES = 4;
    private static final int MOST_PEOPLE = 6;
    private static final int MOST_BEASTS = 24;
    private static final int MOST_STEPS = 30;
    private static final int MOST_TEXTS = 4;
    private static final int MOST_BYTES = 300;
    private static final int MOST_CLAUSES = 24;
    private static final int MOST_OPEN = 8;
    private static final int MOST_SEEN = 6;
    private static final int MOST_TRIED = 12;
    private static final int MOST_HOWS = 4;
    private static final int MOST_COUNTED = 12;
    private static final int MOST_MOVES = 4;
    private static final int MOST_CHANGES = 3;
    private static final int LAST_MINUTE = 999;
    private static final int GARDEN = 1;
    private static final int ROAD = 2;
    private static final int HOME = 3;

    private final Land land;
    private final Stand stand;
    private final Steps steps;
    private final Notes notes;
    private final Reader reader;
    private final Script[] scripts;
    private final Laws laws;
    private final Minutes minutes;
    private final Walk walk;
    private final Errands errands;
    private final Image kept;
    private int texts;
    private int ruling;

    public ElevenBullocks() {
        land = new Land();
        stand = new Stand();
        steps = new Steps();
        notes = new Notes();
        reader = new Reader();
        scripts = new Script[MOST_TEXTS];
        for (int i = 0; i < MOST_TEXTS; i++) {
            scripts[i] = new Script();
        }
        laws = new Laws(land, stand);
        minutes = new Minutes(land, stand, laws);
        walk = new Walk(land, stand, laws);
        errands = new Errands(land, stand);
        kept = new Image();
        texts = 0;
        ruling = NONE;
    }

    public int stretch(int kind, int harm) {
        if (!within(kind, 0, 3) || !within(harm, 0, 99)) {
            return NONE;
        }
        return land.addStretch(kind, harm);
    }

    public int way(int one, int other, boolean path) {
        if (!land.hasStretch(one) || !land.hasStretch(other) || one == other) {
            return NONE;
        }
        return land.addWay(one, other, path);
    }

    public int person(int nerve, boolean wheels, boolean bucket, int at) {
        if (!within(nerve, 0, 9) || !land.hasStretch(at)) {
            return NONE;
        }
        int person = land.addPerson(nerve, wheels, bucket, at);
        if (person != NONE) {
            stand.at[person] = at;
            stand.sent[person] = NONE;
        }
        return person;
    }

    public int feed(int a, int b, int c, int d, int e) {
        if (reader.bytes + 20 > MOST_BYTES) {
            return NONE;
        }
        reader.addBytes(a);
        reader.addBytes(b);
        reader.addBytes(c);
        reader.addBytes(d);
        reader.addBytes(e);
        return reader.bytes;
    }

    public int end(int n) {
        if (!within(n, 0, reader.bytes)) {
            return NONE;
        }
        reader.bytes = n;
        return n;
    }

    public int text() {
        if (texts >= MOST_TEXTS) {
            return NONE;
        }
        // A faulty one leaves its row half written: it is free still, no image and no law looks at it.
        if (!reader.readAll(scripts[texts])) {
            return NONE;
        }
        texts++;
        return texts - 1;
    }

    public int fault(int what) {
        if (what == 0) {
            return reader.faultKind;
        }
        return what == 1 ? reader.faultPlace : NONE;
    }

    public boolean by(int text) {
        if (!within(text, NONE, texts - 1)) {
            return false;
        }
        rule(text);
        return true;
    }

    public int stray(int n, int at) {
        if (!within(n, 1, MOST_BEASTS - stand.beasts()) || !land.hasStretch(at)) {
            return NONE;
        }
        int bunch = stand.freeBunch();
        if (bunch != NONE) {
            steps.keep(stand, land.people);
            stand.put(bunch, n, at, NONE);
        }
        return bunch;
    }

    public int minute(int n) {
        if (!within(n, 1, 60) || stand.minute + n > LAST_MINUTE) {
            return NONE;
        }
        passMinutes(n);
        return stand.allDone();
    }

    public boolean send(int person, int to) {
        if (!land.hasPerson(person) || !within(to, NONE, land.stretches - 1) || stand.sent[person] == to) {
            return false;
        }
        steps.keep(stand, land.people);
        stand.sent[person] = to;
        return true;
    }

    public boolean gate(int way, boolean open) {
        if (!land.hasGate(way) || stand.isOpen(way) == open) {
            return false;
        }
        steps.keep(stand, land.people);
        stand.turn(way);
        return true;
    }

    public int split(int bunch, int n) {
        if (!stand.hasBunch(bunch) || !within(n, 1, stand.size[bunch] - 1)) {
            return NONE;
        }
        int other = stand.freeBunch();
        if (other != NONE) {
            steps.keep(stand, land.people);
            stand.size[bunch] -= n;
            stand.put(other, n, stand.place[bunch], stand.came[bunch]);
        }
        return other;
    }

    public int played(int text) {
        Script script = scriptOf(text);
        if (script == null) {
            return OTHERS;
        }
        for (int i = 0; i < script.clauses && i < MOST_CLAUSES; i++) {
            if (!carryOut(script.word[i], script.first[i], script.second[i])) {
                return i;
            }
        }
        return NONE;
    }

    public int day(int seed, int n) {
        if (!within(seed, 0, 9999) || !within(n, 1, 30) || land.ways == 0) {
            return NONE;
        }
        steps.keep(stand, land.people);
        stand.x = seed * 3 + 41;
        for (int i = 0; i < n; i++) {
            happen();
            stand.renew();
        }
        return stand.allDone();
    }

    public int undo() {
        if (!steps.takeBack(stand, land)) {
            return NONE;
        }
        return steps.count;
    }

    public int bunch(int bunch, int what) {
        if (!within(bunch, 0, MOST_BUNCHES - 1) || !within(what, 0, 3)) {
            return OTHERS;
        }
        if (what == 0) {
            return stand.size[bunch];
        }
        if (stand.size[bunch] == 0) {
            return NONE;
        }
        if (what == 3) {
            return laws.paceOf(bunch);
        }
        return what == 1 ? stand.place[bunch] : stand.came[bunch];
    }

    public int ofPerson(int person, int what) {
        if (!land.hasPerson(person)) {
            return OTHERS;
        }
        switch (what) {
            case 0:
                return land.nerve[person];
            case 1:
                return land.wheels[person] ? 1 : 0;
            case 2:
                return land.bucket[person] ? 1 : 0;
            case 3:
                return stand.at[person];
            case 4:
                return stand.sent[person];
            default:
                return OTHERS;
        }
    }

    public int ofStretch(int stretch, int what) {
        if (!land.hasStretch(stretch)) {
            return NONE;
        }
        switch (what) {
            case 0:
                return land.kind[stretch];
            case 1:
                return land.harm[stretch];
            case 2:
                return stand.done[stretch];
            case 3:
                return land.bitsOfWaysAt(stretch);
            default:
                return NONE;
        }
    }

    public int ofWay(int way, int what) {
        if (!land.hasWay(way)) {
            return NONE;
        }
        switch (what) {
            case 0:
                return land.one[way];
            case 1:
                return land.other[way];
            case 2:
                return land.path[way] ? 1 : 0;
            case 3:
                return stand.isOpen(way) ? 1 : 0;
            default:
                return NONE;
        }
    }

    public int takes(int bunch, int way) {
        if (!stand.hasBunch(bunch) || !land.hasGate(way)) {
            return NONE;
        }
        int there = land.otherSide(way, stand.place[bunch]);
        if (there == NONE) {
            return NONE;
        }
        if (!stand.isOpen(way)) {
            return 0;
        }
        int back = stand.came[bunch] == there ? 1 : 0;
        return laws.chanceOf(stand.size[bunch], stand.place[bunch], way, back, 0, 0);
    }

    public long where(int bunch, int n, int stretch, boolean low) {
        if (!stand.hasBunch(bunch) || !within(n, 0, MOST_MOVES) || !land.hasStretch(stretch)) {
            return NONE;
        }
        long upper = walk.oddsOf(bunch, n, stretch);
        long lower = walk.oddsOfAll(n);
        return inLowestTerms(upper, lower, low);
    }

    public int canCome(int bunch) {
        return stand.hasBunch(bunch) ? walk.reached(bunch) : NONE;
    }

    public int stopped(int bunch, int nerve) {
        if (!stand.hasBunch(bunch) || !within(nerve, 0, 9)) {
            return NONE;
        }
        return walk.fewestWhoStop(bunch, nerve);
    }

    public int soon(int person, int stretch) {
        if (!land.hasPerson(person) || !land.hasStretch(stretch)) {
            return NONE;
        }
        return land.minutesBetween(person, stand.at[person], stretch);
    }

    public int whom(int people, int stretches, int stretch) {
        // Without a stretch nobody is sent: there is no last one, and so no minutes.
        if (!within(people, 0, (1 << land.people) - 1) || !within(stretches, 1, (1 << land.stretches) - 1)) {
            return NONE;
        }
        if (stretch != NONE && (!land.hasStretch(stretch) || (stretches >> stretch & 1) == 0)) {
            return NONE;
        }
        int latest = errands.sendAll(people, stretches);
        return stretch == NONE ? latest : errands.whoGoesTo(stretch);
    }

    public int home(int bunch) {
        return stand.hasBunch(bunch) ? walk.fewestToShut(bunch) : NONE;
    }

    public int seen(int stretch, int t) {
        if (stretch == NONE) {
            notes.sights = 0;
            return 0;
        }
        if (!land.hasStretch(stretch) || !within(t, 0, 60)) {
            return OTHERS;
        }
        return notes.addSight(stretch, t);
    }

    public int which() {
        land.measureGates();
        int gates = 0;
        for (int w = 0; w < land.ways; w++) {
            int out = land.outsideOf(w);
            if (out != NONE && notes.couldAllBeFrom(out, land)) {
                gates |= 1 << w;
            }
        }
        return gates;
    }

    public long many(int m, int c, int k, boolean low) {
        if (!within(m, 0, 9) || !within(c, 0, MOST_COUNTED) || !within(k, 0, MOST_COUNTED)) {
            return NONE;
        }
        long all = 0;
        for (int n = 0; n <= MOST_COUNTED; n++) {
            all += weightOf(n, m, c);
        }
        return inLowestTerms(weightOf(k, m, c), all, low);
    }

    public int after(int person, int i) {
        if (!land.hasPerson(person) || i < NONE) {
            return NONE;
        }
        int least = errands.goAfterAll(person);
        return i == NONE ? least : errands.bunchAt(i);
    }

    public int pays(int stretch, int text) {
        if (!land.hasStretch(stretch) || !within(text, NONE, texts - 1)) {
            return NONE;
        }
        return costAt(stretch, scriptOf(text));
    }

    public int cheapest() {
        int cheapest = NONE;
        int least = costOfGardens(NONE);
        for (int t = 0; t < texts; t++) {
            int cost = costOfGardens(t);
            if (cost < least) {
                least = cost;
                cheapest = t;
            }
        }
        return cheapest;
    }

    public boolean mending(int way, int o, int p, int h, int n) {
        boolean right = land.hasGate(way) && within(o, 0, 10) && within(p, 0, 999);
        right = right && within(h, 0, 999) && within(n, 1, 99);
        if (right) {
            notes.savedBy[way] = h * o * n / 10 - p;
        }
        return right;
    }

    public int saved(int way) {
        if (way == NONE) {
            return notes.bestGate();
        }
        return land.hasWay(way) ? notes.savedBy[way] : UNTOLD;
    }

    public int tried(int how, boolean turned) {
        if (how == NONE) {
            notes.forgetTries();
            return 0;
        }
        if (!within(how, 0, MOST_HOWS - 1) || notes.allTries() >= MOST_TRIED) {
            return OTHERS;
        }
        notes.tries[how]++;
        notes.turns[how] += turned ? 1 : 0;
        return notes.allTries();
    }

    public int turned(int how, boolean low) {
        if (!within(how, 0, MOST_HOWS - 1) || notes.tries[how] == 0) {
            return NONE;
        }
        return (int) inLowestTerms(notes.turns[how], notes.tries[how], low);
    }

    public int best() {
        return notes.bestHow();
    }

    public int image() {
        kept.stretches = land.stretches;
        kept.ways = land.ways;
        kept.people = land.people;
        kept.texts = texts;
        kept.ruling = ruling;
        kept.stand.likeOther(stand);
        kept.steps.likeOther(steps);
        kept.notes.likeOther(notes);
        return stand.minute;
    }

    public int back() {
        land.cutTo(kept.stretches, kept.ways, kept.people);
        texts = kept.texts;
        rule(kept.ruling);
        stand.likeOther(kept.stand);
        steps.likeOther(kept.steps);
        notes.likeOther(kept.notes);
        return stand.minute;
    }

    public int about(int what) {
        switch (what) {
            case 0:
                return land.stretches;
            case 1:
                return land.ways;
            case 2:
                return land.people;
            case 3:
                return stand.minute;
            case 4:
                return stand.beasts();
            case 5:
                return stand.allDone();
            case 6:
                return stand.x;
            case 7:
                return texts;
            case 8:
                return ruling;
            case 9:
                return steps.count;
            case 10:
                return notes.sights;
            case 11:
                return notes.allTries();
            case 12:
                return reader.bytes;
            default:
                return OTHERS;
        }
    }

    private static boolean within(int n, int least, int most) {
        return n >= least && n <= most;
    }

    private static int cut(int n, int least, int most) {
        return Math.max(least, Math.min(most, n));
    }

    private static long inLowestTerms(long upper, long lower, boolean low) {
        long a = lower;
        long b = upper;
        for (int i = 0; i < 1000 && b != 0; i++) {
            long rest = a % b;
            a = b;
            b = rest;
        }
        long number = low ? lower : upper;
        return a == 0 ? number : number / a;
    }

    /**
     * How much n beasts weigh among 0 .. 12 when c were counted. All share the factor of those who were
     * seen, so it is left out and the sums stay small.
     */
    private static long weightOf(int n, int m, int c) {
        if (n < c) {
            return 0;
        }
        long weight = 1;
        for (int i = 1; i <= n - c; i++) {
            weight = weight * (c + i) / i;
        }
        for (int i = 0; i < n - c; i++) {
            weight *= m;
        }
        for (int i = n; i < MOST_COUNTED; i++) {
            weight *= 10;
        }
        return weight;
    }

    /** The next higher set with as many members; the set itself has at least one. */
    private static int nextSet(int set) {
        int lowest = set & -set;
        int higher = set + lowest;
        return lowest == 0 ? 1 << MOST_WAYS : higher | ((set ^ higher) / lowest) >>> 2;
    }

    private Script scriptOf(int text) {
        return within(text, 0, texts - 1) && text < MOST_TEXTS ? scripts[text] : null;
    }

    private void rule(int text) {
        ruling = text;
        laws.ruling = scriptOf(text);
    }

    private boolean passMinutes(int n) {
        for (int i = 0; i < n; i++) {
            if (stand.minute >= LAST_MINUTE) {
                return false;
            }
            steps.keep(stand, land.people);
            minutes.pass();
        }
        return true;
    }

    private boolean carryOut(int word, int first, int second) {
        switch (word) {
            case Reader.STRETCH:
                return stretch(first, second) != NONE;
            case Reader.WAY:
                return way(first, second, false) != NONE;
            case Reader.PATH:
                return way(first, second, true) != NONE;
            case Reader.ONE:
                return person(first, false, false, second) != NONE;
            case Reader.STRAY:
                return stray(first, second) != NONE;
            case Reader.SEND:
                return send(first, second);
            case Reader.SHUT:
                return gate(first, false);
            case Reader.OPEN:
                return gate(first, true);
            case Reader.SPLIT:
                return split(first, second) != NONE;
            case Reader.MINUTE:
                return passMinutes(first);
            default:
                return true;
        }
    }

    /** One of the things of A DAY: which one, and to whom, X says. */
    private void happen() {
        int draw = stand.x % 5;
        if (draw == 0) {
            int way = land.ways == 0 ? NONE : stand.x % land.ways;
            if (land.hasGate(way)) {
                stand.turn(way);
            }
        } else if (draw == 1) {
            int person = land.people == 0 ? NONE : stand.x % land.people;
            if (land.hasPerson(person) && land.stretches != 0) {
                stand.sent[person] = stand.x % land.stretches;
            }
        } else if (stand.minute < LAST_MINUTE) {
            minutes.pass();
        }
    }

    private int costAt(int stretch, Script script) {
        return stand.done[stretch] * laws.shareOf(script, stretch) / 100;
    }

    private int costOfGardens(int text) {
        int cost = 0;
        for (int s = 0; s < land.stretches; s++) {
            if (land.kind[s] == GARDEN) {
                cost += costAt(s, scriptOf(text));
            }
        }
        return cost;
    }

    /** What is told once and stays as it was told: only more can come, or the latest be cut off again. */
    static final class Land {
        static final int FAR = 1000;

        int stretches;
        int ways;
        int people;
        final int[] kind = new int[MOST_STRETCHES];
        final int[] harm = new int[MOST_STRETCHES];
        final int[] one = new int[MOST_WAYS];
        final int[] other = new int[MOST_WAYS];
        final boolean[] path = new boolean[MOST_WAYS];
        final int[] nerve = new int[MOST_PEOPLE];
        final boolean[] wheels = new boolean[MOST_PEOPLE];
        final boolean[] bucket = new boolean[MOST_PEOPLE];
        final int[] toldAt = new int[MOST_PEOPLE];
        private final int[] waysAt = new int[MOST_STRETCHES * MOST_AT_ONE];
        private final int[] howManyAt = new int[MOST_STRETCHES];
        private final int[] apart = new int[MOST_STRETCHES * MOST_STRETCHES];
        private final int[] apartByGates = new int[MOST_STRETCHES * MOST_STRETCHES];

        Land() {
            setApart(apart);
        }

        boolean hasStretch(int stretch) {
            return stretch >= 0 && stretch < stretches;
        }

        boolean hasWay(int way) {
            return way >= 0 && way < ways;
        }

        boolean hasGate(int way) {
            return way >= 0 && way < ways && !path[way];
        }

        boolean hasPerson(int person) {
            return person >= 0 && person < people;
        }

        int addStretch(int ofKind, int ofHarm) {
            if (stretches >= MOST_STRETCHES) {
                return NONE;
            }
            kind[stretches] = ofKind;
            harm[stretches] = ofHarm;
            stretches++;
            return stretches - 1;
        }

        int addWay(int from, int to, boolean isPath) {
            if (ways >= MOST_WAYS || howManyAt[from] >= MOST_AT_ONE || howManyAt[to] >= MOST_AT_ONE) {
                return NONE;
            }
            one[ways] = from;
            other[ways] = to;
            path[ways] = isPath;
            ways++;
            layWay(ways - 1);
            return ways - 1;
        }

        int addPerson(int ofNerve, boolean onWheels, boolean withBucket, int at) {
            if (people >= MOST_PEOPLE) {
                return NONE;
            }
            nerve[people] = ofNerve;
            wheels[people] = onWheels;
            bucket[people] = withBucket;
            toldAt[people] = at;
            people++;
            return people - 1;
        }

        void cutTo(int toStretches, int toWays, int toPeople) {
            stretches = toStretches;
            ways = toWays;
            people = toPeople;
            Arrays.fill(howManyAt, 0);
            setApart(apart);
            for (int w = 0; w < ways; w++) {
                layWay(w);
            }
        }

        private void layWay(int way) {
            noteWayAt(one[way], way);
            noteWayAt(other[way], way);
            bringNear(apart, one[way], other[way]);
        }

        private void noteWayAt(int stretch, int way) {
            if (howManyAt[stretch] < MOST_AT_ONE) {
                waysAt[stretch * MOST_AT_ONE + howManyAt[stretch]] = way;
                howManyAt[stretch]++;
            }
        }

        private static void setApart(int[] table) {
            Arrays.fill(table, FAR);
            for (int s = 0; s < MOST_STRETCHES; s++) {
                table[s * MOST_STRETCHES + s] = 0;
            }
        }

        private void bringNear(int[] table, int a, int b) {
            for (int i = 0; i < stretches; i++) {
                int row = i * MOST_STRETCHES;
                for (int j = 0; j < stretches; j++) {
                    int byA = table[row + a] + 1 + table[b * MOST_STRETCHES + j];
                    int byB = table[row + b] + 1 + table[a * MOST_STRETCHES + j];
                    table[row + j] = Math.min(table[row + j], Math.min(byA, byB));
                }
            }
        }

        /** Beasts take no paths, so what they can have walked is measured by gates alone. */
        void measureGates() {
            setApart(apartByGates);
            for (int w = 0; w < ways; w++) {
                if (!path[w]) {
                    bringNear(apartByGates, one[w], other[w]);
                }
            }
        }

        int distanceByGates(int from, int to) {
            return hasStretch(from) && hasStretch(to) ? apartByGates[from * MOST_STRETCHES + to] : FAR;
        }

        private int distance(int from, int to) {
            return hasStretch(from) && hasStretch(to) ? apart[from * MOST_STRETCHES + to] : FAR;
        }

        int countWaysAt(int stretch) {
            return hasStretch(stretch) ? howManyAt[stretch] : 0;
        }

        /** The i-th way at a stretch, by number; NONE, if there are not so many. */
        int wayAt(int stretch, int i) {
            if (!hasStretch(stretch) || i < 0 || i >= howManyAt[stretch]) {
                return NONE;
            }
            return waysAt[stretch * MOST_AT_ONE + i];
        }

        int bitsOfWaysAt(int stretch) {
            int bits = 0;
            for (int i = 0; i < countWaysAt(stretch); i++) {
                bits |= 1 << wayAt(stretch, i);
            }
            return bits;
        }

        int bitsOfKind(int ofKind) {
            int bits = 0;
            for (int s = 0; s < stretches; s++) {
                if (kind[s] == ofKind) {
                    bits |= 1 << s;
                }
            }
            return bits;
        }

        int otherSide(int way, int stretch) {
            if (!hasWay(way)) {
                return NONE;
            }
            if (one[way] == stretch) {
                return other[way];
            }
            return other[way] == stretch ? one[way] : NONE;
        }

        /** Where beasts are that got out of a home by a way; NONE, if it is not such a way. */
        int outsideOf(int way) {
            if (!hasGate(way)) {
                return NONE;
            }
            boolean oneIsHome = kind[one[way]] == HOME;
            boolean otherIsHome = kind[other[way]] == HOME;
            if (oneIsHome == otherIsHome) {
                return NONE;
            }
            return oneIsHome ? other[way] : one[way];
        }

        int minutesBetween(int person, int from, int to) {
            int away = distance(from, to);
            if (away >= FAR || !hasPerson(person)) {
                return NONE;
            }
            return wheels[person] ? (away + 1) / 2 : away;
        }

        int nextTowards(int from, int to) {
            int next = NONE;
            int left = distance(from, to);
            for (int i = 0; i < countWaysAt(from) && left < FAR; i++) {
                int side = otherSide(wayAt(from, i), from);
                if (distance(side, to) == left - 1 && (next == NONE || side < next)) {
                    next = side;
                }
            }
            return next;
        }
    }

    /** How all stands: what steps change, and what is taken back with them. */
    static final class Stand {
        static final int CELLS = 3 * MOST_BUNCHES + 2 * MOST_PEOPLE + MOST_STRETCHES + 3;

        final int[] size = new int[MOST_BUNCHES];
        final int[] place = new int[MOST_BUNCHES];
        final int[] came = new int[MOST_BUNCHES];
        final int[] at = new int[MOST_PEOPLE];
        final int[] sent = new int[MOST_PEOPLE];
        final int[] done = new int[MOST_STRETCHES];
        private int shut;
        int minute;
        int x;

        Stand() {
            Arrays.fill(place, NONE);
            Arrays.fill(came, NONE);
            Arrays.fill(sent, NONE);
            x = 41;
        }

        boolean hasBunch(int bunch) {
            return bunch >= 0 && bunch < MOST_BUNCHES && size[bunch] > 0;
        }

        int freeBunch() {
            for (int b = 0; b < MOST_BUNCHES; b++) {
                if (size[b] == 0) {
                    return b;
                }
            }
            return NONE;
        }

        void put(int bunch, int n, int stretch, int from) {
            size[bunch] = n;
            place[bunch] = stretch;
            came[bunch] = from;
        }

        int beasts() {
            return sum(size);
        }

        int allDone() {
            return sum(done);
        }

        private static int sum(int[] row) {
            int sum = 0;
            for (int n : row) {
                sum += n;
            }
            return sum;
        }

        boolean isOpen(int way) {
            return (shut >> way & 1) == 0;
        }

        void turn(int way) {
            shut ^= 1 << way;
        }

        void renew() {
            x = (x * 239 + 137) % 30203;
        }

        int drawByTen() {
            int draw = x % 10;
            renew();
            return draw;
        }

        void likeOther(Stand from) {
            System.arraycopy(from.size, 0, size, 0, MOST_BUNCHES);
            System.arraycopy(from.place, 0, place, 0, MOST_BUNCHES);
            System.arraycopy(from.came, 0, came, 0, MOST_BUNCHES);
            System.arraycopy(from.at, 0, at, 0, MOST_PEOPLE);
            System.arraycopy(from.sent, 0, sent, 0, MOST_PEOPLE);
            System.arraycopy(from.done, 0, done, 0, MOST_STRETCHES);
            shut = from.shut;
            minute = from.minute;
            x = from.x;
        }

        void writeTo(int[] rows, int from) {
            int next = from;
            for (int b = 0; b < MOST_BUNCHES; b++, next += 3) {
                rows[next] = size[b];
                rows[next + 1] = place[b];
                rows[next + 2] = came[b];
            }
            for (int p = 0; p < MOST_PEOPLE; p++, next += 2) {
                rows[next] = at[p];
                rows[next + 1] = sent[p];
            }
            System.arraycopy(done, 0, rows, next, MOST_STRETCHES);
            next += MOST_STRETCHES;
            rows[next] = shut;
            rows[next + 1] = minute;
            rows[next + 2] = x;
        }

        /** Ways that came since have no bit among the shut ones of the row, and so are open. */
        void readFrom(int[] rows, int from) {
            int next = from;
            for (int b = 0; b < MOST_BUNCHES; b++, next += 3) {
                put(b, rows[next], rows[next + 1], rows[next + 2]);
            }
            for (int p = 0; p < MOST_PEOPLE; p++, next += 2) {
                at[p] = rows[next];
                sent[p] = rows[next + 1];
            }
            System.arraycopy(rows, next, done, 0, MOST_STRETCHES);
            next += MOST_STRETCHES;
            shut = rows[next];
            minute = rows[next + 1];
            x = rows[next + 2];
        }
    }

    /** The latest steps, as a ring of rows in one array, so that a step makes no object. */
    static final class Steps {
        private final int[] rows = new int[MOST_STEPS * Stand.CELLS];
        private final int[] peopleThen = new int[MOST_STEPS];
        private int latest;
        int count;

        void keep(Stand stand, int people) {
            latest = (latest + 1) % MOST_STEPS;
            count = Math.min(MOST_STEPS, count + 1);
            stand.writeTo(rows, latest * Stand.CELLS);
            peopleThen[latest] = people;
        }

        boolean takeBack(Stand stand, Land land) {
            if (count == 0) {
                return false;
            }
            stand.readFrom(rows, latest * Stand.CELLS);
            for (int p = peopleThen[latest]; p < land.people; p++) {
                stand.at[p] = land.toldAt[p];
                stand.sent[p] = NONE;
            }
            latest = (latest + MOST_STEPS - 1) % MOST_STEPS;
            count--;
            return true;
        }

        void likeOther(Steps from) {
            System.arraycopy(from.rows, 0, rows, 0, rows.length);
            System.arraycopy(from.peopleThen, 0, peopleThen, 0, MOST_STEPS);
            latest = from.latest;
            count = from.count;
        }
    }

    /** What is told of sights, of mending and of tries. */
    static final class Notes {
        private final int[] sightAt = new int[MOST_SEEN];
        private final int[] sightMinute = new int[MOST_SEEN];
        int sights;
        final int[] savedBy = new int[MOST_WAYS];
        final int[] tries = new int[MOST_HOWS];
        final int[] turns = new int[MOST_HOWS];

        Notes() {
            Arrays.fill(savedBy, UNTOLD);
        }

        int addSight(int stretch, int t) {
            if (sights >= MOST_SEEN) {
                return OTHERS;
            }
            sightAt[sights] = stretch;
            sightMinute[sights] = t;
            sights++;
            return sights;
        }

        boolean couldAllBeFrom(int stretch, Land land) {
            for (int i = 0; i < sights; i++) {
                if (land.distanceByGates(stretch, sightAt[i]) > sightMinute[i]) {
                    return false;
                }
            }
            return true;
        }

        int bestGate() {
            int best = NONE;
            int most = 0;
            for (int w = 0; w < MOST_WAYS; w++) {
                if (savedBy[w] > most) {
                    most = savedBy[w];
                    best = w;
                }
            }
            return best;
        }

        int allTries() {
            return Stand.sum(tries);
        }

        void forgetTries() {
            Arrays.fill(tries, 0);
            Arrays.fill(turns, 0);
        }

        int bestHow() {
            int best = NONE;
            for (int how = 0; how < MOST_HOWS; how++) {
                if (tries[how] > 0 && (best == NONE || isBetter(how, best))) {
                    best = how;
                }
            }
            return best;
        }

        private boolean isBetter(int how, int than) {
            int mine = turns[how] * tries[than];
            int its = turns[than] * tries[how];
            return mine > its || mine == its && tries[how] > tries[than];
        }

        void likeOther(Notes from) {
            System.arraycopy(from.sightAt, 0, sightAt, 0, MOST_SEEN);
            System.arraycopy(from.sightMinute, 0, sightMinute, 0, MOST_SEEN);
            System.arraycopy(from.savedBy, 0, savedBy, 0, MOST_WAYS);
            System.arraycopy(from.tries, 0, tries, 0, MOST_HOWS);
            System.arraycopy(from.turns, 0, turns, 0, MOST_HOWS);
            sights = from.sights;
        }
    }

    /**
     * THE IMAGE. Of land and texts it keeps only how many there were: what was told stays where it is, and
     * is written over only behind that number.
     */
    static final class Image {
        int stretches;
        int ways;
        int people;
        int texts;
        int ruling = NONE;
        final Stand stand = new Stand();
        final Steps steps = new Steps();
        final Notes notes = new Notes();
    }

    /** A text as it was understood: its laws as a row of orders for a stack, its clauses one by one. */
    static final class Script {
        /** An order and its number stand in one cell: order * BASE + number. */
        static final int BASE = 10000;
        static final int LAWS = 3;

        final int[] orders = new int[MOST_BYTES];
        int length;
        final int[] lawFrom = new int[LAWS];
        final int[] lawTo = new int[LAWS];
        final int[] word = new int[MOST_CLAUSES];
        final int[] first = new int[MOST_CLAUSES];
        final int[] second = new int[MOST_CLAUSES];
        int clauses;

        void clear() {
            length = 0;
            clauses = 0;
            Arrays.fill(lawFrom, NONE);
        }

        boolean hasLaw(int law) {
            return law >= 0 && law < LAWS && lawFrom[law] != NONE;
        }

        /** No token asks for more than one order, so the row is long enough for each text. */
        int addOrder(int order, int number) {
            if (length >= MOST_BYTES) {
                return NONE;
            }
            orders[length] = order * BASE + number;
            length++;
            return length - 1;
        }

        void leadToHere(int order) {
            if (order >= 0 && order < length) {
                orders[order] += length;
            }
        }

        void addClause(int ofWord, int ofFirst, int ofSecond) {
            if (clauses < MOST_CLAUSES) {
                word[clauses] = ofWord;
                first[clauses] = ofFirst;
                second[clauses] = ofSecond;
                clauses++;
            }
        }
    }

    /** The tape, and how it is read: tokens one by one, each looked at once, up to the first fault. */
    static final class Reader {
        static final int END = 0;
        static final int BAD = 1;
        static final int NUMBER = 2;
        static final int LETTER = 3;
        static final int LESS = 4;
        static final int AT_MOST = 5;
        static final int MORE = 6;
        static final int AT_LEAST = 7;
        static final int LIKE = 8;
        static final int UNLIKE = 9;
        static final int PLUS = 10;
        static final int MINUS = 11;
        static final int TIMES = 12;
        static final int OVER = 13;
        static final int LEFT = 14;
        static final int RIGHT = 15;
        static final int SEMICOLON = 16;
        /** Two orders that are no tokens of their own. */
        static final int NAME = 17;
        static final int NEGATE = 18;

        static final int PACE = 20;
        static final int PAYS = 22;
        static final int STRETCH = 23;
        static final int WAY = 24;
        static final int PATH = 25;
        static final int ONE = 26;
        static final int STRAY = 27;
        static final int SEND = 28;
        static final int SHUT = 29;
        static final int OPEN = 30;
        static final int SPLIT = 31;
        static final int MINUTE = 32;
        static final int HARM = 33;
        static final int TO = 34;
        static final int AT = 35;
        static final int BY = 36;
        static final int IF = 37;
        static final int THEN = 38;
        static final int ELSE = 39;
        static final int ENDS = 40;
        static final int LET = 41;
        static final int BE = 42;
        static final int IN = 43;
        static final int NOT = 44;
        static final int AND = 45;
        static final int OR = 46;
        static final int FIRST_NAME = 47;
        static final int LAST_NAME = 56;

        /** The words by number, from PACE on; a blank ends each. */
        private static final String WORDS = "pace takes pays stretch way path one stray send shut open split minute harm to at by if then else end let be in not and or size place kind here behind ahead stood bucket back done ";

        /** Of each clause from STRETCH to MINUTE: least, most, the word between (0: none), least, most. */
        private static final int[] SHAPES = {
            0, 3, HARM, 0, 99,
            0, 11, TO, 0, 11,
            0, 11, TO, 0, 11,
            0, 9, AT, 0, 11,
            1, 24, AT, 0, 11,
            0, 5, TO, 0, 11,
            0, 15, 0, 0, 0,
            0, 15, 0, 0, 0,
            0, 3, BY, 1, 24,
            1, 60, 0, 0, 0,
        };

        /** The laws in which each name of Laws stands: 1 pace, 2 takes, 4 pays. */
        private static final int[] LAWS_OF_NAMES = {7, 7, 7, 7, 1, 2, 2, 2, 2, 4, 2};

        private final int[] tape = new int[MOST_BYTES];
        int bytes;
        int faultKind = NONE;
        int faultPlace = NONE;
        private final int[] slotOf = new int[26];
        private Script script;
        private int law;
        private int next;
        private int token;
        private int begin;
        private int value;

        void addBytes(int four) {
            for (int shift = 24; shift >= 0 && bytes < MOST_BYTES; shift -= 8) {
                tape[bytes] = four >>> shift & 255;
                bytes++;
            }
        }

        /** Reads the tape, which is empty then; false, if it has a fault. */
        boolean readAll(Script into) {
            script = into;
            script.clear();
            faultKind = 0;
            faultPlace = NONE;
            Arrays.fill(slotOf, NONE);
            next = 0;
            advance();
            for (int i = 0; i <= MOST_BYTES && token != END && faultKind == 0; i++) {
                readClause();
            }
            bytes = 0;
            return faultKind == 0;
        }

        /** Behind a fault every token is BAD: so all loops over tokens end, and no later fault counts. */
        private void fail(int kind) {
            if (faultKind == 0) {
                faultKind = kind;
                faultPlace = begin;
            }
            token = BAD;
        }

        private void expect(int wanted) {
            if (token == wanted) {
                advance();
            } else {
                fail(1);
            }
        }

        private int readNumber(int least, int most) {
            if (token != NUMBER) {
                fail(1);
                return least;
            }
            if (!within(value, least, most)) {
                fail(2);
                return least;
            }
            int number = value;
            advance();
            return number;
        }

        private void readClause() {
            int word = token;
            if (!within(word, PACE, MINUTE)) {
                fail(1);
            } else if (script.hasLaw(word - PACE)) {
                fail(4);
            } else if (script.clauses >= MOST_CLAUSES) {
                fail(6);
            } else {
                advance();
                if (word <= PAYS) {
                    law = word - PACE;
                    script.lawFrom[law] = script.length;
                    readSum(0);
                    script.lawTo[law] = script.length;
                    script.addClause(word, 0, 0);
                } else {
                    readDeed(word);
                }
                expect(SEMICOLON);
            }
        }

        private void readDeed(int word) {
            int shape = (word - STRETCH) * 5;
            int first = readNumber(SHAPES[shape], SHAPES[shape + 1]);
            int second = 0;
            if (SHAPES[shape + 2] != 0) {
                expect(SHAPES[shape + 2]);
                second = readNumber(SHAPES[shape + 3], SHAPES[shape + 4]);
            }
            script.addClause(word, first, second);
        }

        private void readSum(int depth) {
            readProduct(depth);
            for (int i = 0; i < MOST_BYTES && (token == PLUS || token == MINUS); i++) {
                int sign = token;
                advance();
                readProduct(depth);
                script.addOrder(sign, 0);
            }
        }

        private void readProduct(int depth) {
            readOne(depth);
            for (int i = 0; i < MOST_BYTES && (token == TIMES || token == OVER); i++) {
                int sign = token;
                advance();
                readOne(depth);
                script.addOrder(sign, 0);
            }
        }

        private void readOne(int depth) {
            switch (token) {
                case NUMBER:
                    script.addOrder(NUMBER, readNumber(0, 9999));
                    break;
                case LETTER:
                    readLetter();
                    break;
                case LEFT:
                    if (enter(depth)) {
                        readSum(depth + 1);
                        expect(RIGHT);
                    }
                    break;
                case MINUS:
                    if (enter(depth)) {
                        readOne(depth + 1);
                        script.addOrder(NEGATE, 0);
                    }
                    break;
                case IF:
                    if (enter(depth)) {
                        readIf(depth + 1);
                    }
                    break;
                case LET:
                    if (enter(depth)) {
                        readLet(depth + 1);
                    }
                    break;
                default:
                    readName();
                    break;
            }
        }

        private boolean enter(int depth) {
            if (depth >= MOST_OPEN) {
                fail(3);
                return false;
            }
            advance();
            return true;
        }

        private void readLetter() {
            int slot = within(value, 0, 25) ? slotOf[value] : NONE;
            if (slot == NONE) {
                fail(5);
            } else {
                script.addOrder(LETTER, slot);
                advance();
            }
        }

        private void readName() {
            int name = token == WAY ? Laws.WAY : token - FIRST_NAME;
            if (token != WAY && !within(token, FIRST_NAME, LAST_NAME)) {
                fail(1);
            } else if ((LAWS_OF_NAMES[name] >> law & 1) == 0) {
                fail(5);
            } else {
                script.addOrder(NAME, name);
                advance();
            }
        }

        private void readIf(int depth) {
            readEither(depth);
            expect(THEN);
            int past = script.addOrder(THEN, 0);
            readSum(depth);
            expect(ELSE);
            int over = script.addOrder(ELSE, 0);
            script.leadToHere(past);
            readSum(depth);
            script.leadToHere(over);
            expect(ENDS);
        }

        /** Lets around one another have unlike depths, so the depth is the place of what is let. */
        private void readLet(int depth) {
            int letter = token == LETTER && within(value, 0, 25) ? value : 0;
            int slot = cut(depth - 1, 0, MOST_OPEN - 1);
            expect(LETTER);
            expect(BE);
            readSum(depth);
            expect(IN);
            script.addOrder(IN, slot);
            int before = slotOf[letter];
            slotOf[letter] = slot;
            readSum(depth);
            slotOf[letter] = before;
            expect(ENDS);
        }

        private void readEither(int depth) {
            readBoth(depth);
            for (int i = 0; i < MOST_BYTES && token == OR; i++) {
                advance();
                readBoth(depth);
                script.addOrder(OR, 0);
            }
        }

        private void readBoth(int depth) {
            readAsk(depth);
            for (int i = 0; i < MOST_BYTES && token == AND; i++) {
                advance();
                readAsk(depth);
                script.addOrder(AND, 0);
            }
        }

        private void readAsk(int depth) {
            if (token == NOT) {
                if (enter(depth)) {
                    readAsk(depth + 1);
                    script.addOrder(NOT, 0);
                }
                return;
            }
            readSum(depth);
            int sign = token;
            if (!within(sign, LESS, UNLIKE)) {
                fail(1);
                return;
            }
            advance();
            readSum(depth);
            script.addOrder(sign, 0);
        }

        private void advance() {
            if (faultKind != 0) {
                return;
            }
            while (next < bytes && (tape[next] == ' ' || tape[next] == '\n')) {
                next++;
            }
            begin = next;
            if (next >= bytes) {
                token = END;
            } else if (isDigit(tape[next])) {
                scanNumber();
            } else if (isLetter(tape[next])) {
                scanWord();
            } else {
                scanSign(tape[next]);
            }
        }

        private static boolean isDigit(int sign) {
            return sign >= '0' && sign <= '9';
        }

        private static boolean isLetter(int sign) {
            return sign >= 'a' && sign <= 'z' || sign >= 'A' && sign <= 'Z';
        }

        private void scanNumber() {
            token = NUMBER;
            value = 0;
            while (next < bytes && isDigit(tape[next])) {
                value = Math.min(10000, value * 10 + tape[next] - '0');
                next++;
            }
        }

        private void scanWord() {
            while (next < bytes && isLetter(tape[next])) {
                next++;
            }
            if (next == begin + 1 && tape[begin] >= 'a') {
                token = LETTER;
                value = tape[begin] - 'a';
            } else {
                token = wordOf();
            }
        }

        private int wordOf() {
            int word = PACE;
            int at = begin;
            boolean like = true;
            for (int i = 0; i < WORDS.length(); i++) {
                char sign = WORDS.charAt(i);
                if (sign != ' ') {
                    like = like && at < next && tape[at] == sign;
                    at++;
                } else if (like && at == next) {
                    return word;
                } else {
                    word++;
                    at = begin;
                    like = true;
                }
            }
            return BAD;
        }

        private void scanSign(int sign) {
            next++;
            boolean longer = next < bytes && tape[next] == '=' && (sign == '<' || sign == '>');
            if (longer) {
                next++;
            }
            switch (sign) {
                case '<':
                    token = longer ? AT_MOST : LESS;
                    break;
                case '>':
                    token = longer ? AT_LEAST : MORE;
                    break;
                case '=':
                    token = LIKE;
                    break;
                case '#':
                    token = UNLIKE;
                    break;
                case '+':
                    token = PLUS;
                    break;
                case '-':
                    token = MINUS;
                    break;
                case '*':
                    token = TIMES;
                    break;
                case '/':
                    token = OVER;
                    break;
                case '(':
                    token = LEFT;
                    break;
                case ')':
                    token = RIGHT;
                    break;
                case ';':
                    token = SEMICOLON;
                    break;
                default:
                    token = BAD;
                    break;
            }
        }
    }

    /** What the laws say: those of the ruling text, or what holds without. */
    static final class Laws {
        static final int SIZE = 0;
        static final int PLACE = 1;
        static final int KIND = 2;
        static final int HERE = 3;
        static final int BEHIND = 4;
        static final int AHEAD = 5;
        static final int STOOD = 6;
        static final int BUCKET = 7;
        static final int BACK = 8;
        static final int DONE = 9;
        static final int WAY = 10;

        private static final int PACE_LAW = 0;
        private static final int TAKES_LAW = 1;
        private static final int PAYS_LAW = 2;
        private static final int GREATEST = 1000000;

        private final Land land;
        private final Stand stand;
        Script ruling;
        private final int[] names = new int[11];
        private final int[] lets = new int[MOST_OPEN];
        private final int[] stack = new int[MOST_BYTES];
        private int top;

        Laws(Land land, Stand stand) {
            this.land = land;
            this.stand = stand;
        }

        int paceOf(int bunch) {
            if (ruling == null || !ruling.hasLaw(PACE_LAW) || !stand.hasBunch(bunch)) {
                return 1;
            }
            nameAll(stand.size[bunch], stand.place[bunch], 0);
            names[BEHIND] = stand.came[bunch] == NONE ? 0 : peopleAt(stand.came[bunch]);
            return cut(answer(ruling, PACE_LAW), 0, 2);
        }

        /** With so many people more where the bunch is, and so much nerve more on the other side. */
        int chanceOf(int size, int place, int way, int back, int moreHere, int moreNerve) {
            int there = land.otherSide(way, place);
            if (there == NONE) {
                return 0;
            }
            int nerve = moreNerve;
            int buckets = 0;
            for (int p = 0; p < land.people; p++) {
                if (stand.at[p] == there) {
                    nerve += land.nerve[p];
                    buckets += land.bucket[p] ? 1 : 0;
                }
            }
            if (ruling == null || !ruling.hasLaw(TAKES_LAW)) {
                return nerve > 0 ? 0 : 5;
            }
            nameAll(size, place, moreHere);
            names[AHEAD] = land.kind[there];
            names[STOOD] = nerve;
            names[BUCKET] = buckets;
            names[BACK] = back;
            names[WAY] = way;
            return cut(answer(ruling, TAKES_LAW), 0, 10);
        }

        /** How much of a hundred is paid at a stretch by a script, or without one. */
        int shareOf(Script script, int stretch) {
            if (script == null || !script.hasLaw(PAYS_LAW) || !land.hasStretch(stretch)) {
                return 100;
            }
            nameAll(0, stretch, 0);
            names[DONE] = cut(stand.done[stretch], 0, GREATEST);
            return cut(answer(script, PAYS_LAW), 0, 100);
        }

        private void nameAll(int size, int place, int moreHere) {
            names[SIZE] = size;
            names[PLACE] = place;
            names[KIND] = land.hasStretch(place) ? land.kind[place] : 0;
            names[HERE] = peopleAt(place) + moreHere;
        }

        private int peopleAt(int stretch) {
            int count = 0;
            for (int p = 0; p < land.people; p++) {
                if (stand.at[p] == stretch) {
                    count++;
                }
            }
            return count;
        }

        /** Orders lead only forward, so each is come to once at most. */
        private int answer(Script script, int law) {
            top = 0;
            int to = Math.min(script.lawTo[law], MOST_BYTES);
            int i = script.lawFrom[law];
            for (int round = 0; round < MOST_BYTES && i >= 0 && i < to; round++) {
                int order = script.orders[i] / Script.BASE;
                int number = script.orders[i] % Script.BASE;
                i++;
                switch (order) {
                    case Reader.NUMBER:
                        push(number);
                        break;
                    case Reader.NAME:
                        push(number < names.length ? names[number] : 0);
                        break;
                    case Reader.LETTER:
                        push(number < MOST_OPEN ? lets[number] : 0);
                        break;
                    case Reader.IN:
                        lets[Math.min(number, MOST_OPEN - 1)] = pop();
                        break;
                    case Reader.THEN:
                        i = pop() == 0 ? number : i;
                        break;
                    case Reader.ELSE:
                        i = number;
                        break;
                    case Reader.NEGATE:
                        push(-pop());
                        break;
                    case Reader.NOT:
                        push(1 - pop());
                        break;
                    default:
                        int right = pop();
                        push(joined(order, pop(), right));
                        break;
                }
            }
            return pop();
        }

        private void push(int n) {
            if (top < MOST_BYTES) {
                stack[top] = n;
                top++;
            }
        }

        private int pop() {
            if (top == 0) {
                return 0;
            }
            top--;
            return stack[top];
        }

        private static int joined(int order, int left, int right) {
            switch (order) {
                case Reader.PLUS:
                    return Math.max(-GREATEST, Math.min(GREATEST, left + right));
                case Reader.MINUS:
                    return Math.max(-GREATEST, Math.min(GREATEST, left - right));
                case Reader.TIMES:
                    return (int) Math.max(-GREATEST, Math.min(GREATEST, (long) left * right));
                case Reader.OVER:
                    return right == 0 ? 0 : left / right;
                case Reader.AND:
                    return left & right;
                case Reader.OR:
                    return left | right;
                case Reader.LESS:
                    return left < right ? 1 : 0;
                case Reader.AT_MOST:
                    return left <= right ? 1 : 0;
                case Reader.MORE:
                    return left > right ? 1 : 0;
                case Reader.AT_LEAST:
                    return left >= right ? 1 : 0;
                case Reader.LIKE:
                    return left == right ? 1 : 0;
                default:
                    return left != right ? 1 : 0;
            }
        }
    }

    /** How a minute goes by. */
    static final class Minutes {
        private final Land land;
        private final Stand stand;
        private final Laws laws;

        Minutes(Land land, Stand stand, Laws laws) {
            this.land = land;
            this.stand = stand;
            this.laws = laws;
        }

        void pass() {
            for (int p = 0; p < land.people; p++) {
                goOn(p);
                if (land.wheels[p]) {
                    goOn(p);
                }
            }
            for (int b = 0; b < MOST_BUNCHES; b++) {
                int moves = stand.hasBunch(b) ? laws.paceOf(b) : 0;
                for (int i = 0; i < moves; i++) {
                    moveOn(b);
                }
            }
            doHarm();
            joinBunches();
            stand.minute++;
        }

        private void goOn(int person) {
            int to = stand.sent[person];
            if (to == NONE || to == stand.at[person]) {
                return;
            }
            int next = land.nextTowards(stand.at[person], to);
            if (next != NONE) {
                stand.at[person] = next;
            }
        }

        private void moveOn(int bunch) {
            int from = stand.place[bunch];
            for (int i = 0; i < land.countWaysAt(from); i++) {
                int way = land.wayAt(from, i);
                int there = land.otherSide(way, from);
                if (there == NONE || !land.hasGate(way) || !stand.isOpen(way)) {
                    continue;
                }
                int back = stand.came[bunch] == there ? 1 : 0;
                if (isTaken(laws.chanceOf(stand.size[bunch], from, way, back, 0, 0))) {
                    stand.came[bunch] = from;
                    stand.place[bunch] = there;
                    return;
                }
            }
        }

        private boolean isTaken(int chance) {
            if (chance == 0 || chance == 10) {
                return chance == 10;
            }
            return stand.drawByTen() < chance;
        }

        private void doHarm() {
            for (int b = 0; b < MOST_BUNCHES; b++) {
                if (stand.hasBunch(b)) {
                    int place = stand.place[b];
                    stand.done[place] += stand.size[b] * land.harm[place];
                }
            }
        }

        private void joinBunches() {
            for (int b = 0; b < MOST_BUNCHES; b++) {
                for (int later = b + 1; later < MOST_BUNCHES && stand.hasBunch(b); later++) {
                    if (stand.hasBunch(later) && stand.place[later] == stand.place[b]) {
                        stand.size[b] += stand.size[later];
                        stand.put(later, 0, NONE, NONE);
                    }
                }
            }
        }
    }

    /**
     * Where a bunch can come to. A stand of it is its stretch and the one it came from (stretch * FROMS +
     * that + 1), since a law may ask for both.
     */
    static final class Walk {
        private static final int FROMS = MOST_STRETCHES + 1;
        private static final int STANDS = MOST_STRETCHES * FROMS;
        /** A move has a chance in tenths for each of the ways at a stretch. */
        private static final long PARTS = 10000;

        private final Land land;
        private final Stand stand;
        private final Laws laws;
        private final int[] known = new int[MOST_WAYS * 16];
        private final int[] queue = new int[STANDS];
        private final int[] met = new int[STANDS];
        private long[] now = new long[STANDS];
        private long[] then = new long[STANDS];
        private int size;
        private int shutToo;
        private int guarded;
        private int nerve;

        Walk(Land land, Stand stand, Laws laws) {
            this.land = land;
            this.stand = stand;
            this.laws = laws;
        }

        private void begin(int bunch, int ofNerve) {
            Arrays.fill(known, NONE);
            size = stand.size[bunch];
            nerve = ofNerve;
            shutToo = 0;
            guarded = 0;
        }

        private int standOf(int bunch) {
            return stand.place[bunch] * FROMS + stand.came[bunch] + 1;
        }

        /** Nobody moves while it is asked, so what a law said of a way is kept for the next time. */
        private int chanceOf(int way, int place, int came) {
            int there = land.otherSide(way, place);
            if (there == NONE || !land.hasGate(way) || !stand.isOpen(way) || (shutToo >> way & 1) == 1) {
                return 0;
            }
            int back = came == there ? 1 : 0;
            int moreHere = guarded >> place & 1;
            int moreThere = guarded >> there & 1;
            int side = land.one[way] == place ? 0 : 1;
            int cell = way * 16 + side * 8 + back * 4 + moreHere * 2 + moreThere;
            if (known[cell] == NONE) {
                known[cell] = laws.chanceOf(size, place, way, back, moreHere, moreThere * nerve);
            }
            return known[cell];
        }

        int reached(int bunch) {
            begin(bunch, 0);
            return spread(bunch);
        }

        private int spread(int bunch) {
            Arrays.fill(met, 0);
            queue[0] = standOf(bunch);
            met[queue[0]] = 1;
            int count = 1;
            int places = 0;
            for (int i = 0; i < count && i < STANDS; i++) {
                places |= 1 << queue[i] / FROMS;
                count = goFrom(queue[i], count);
            }
            return places;
        }

        private int goFrom(int from, int count) {
            int place = from / FROMS;
            int more = count;
            for (int i = 0; i < land.countWaysAt(place); i++) {
                int way = land.wayAt(place, i);
                int chance = chanceOf(way, place, from % FROMS - 1);
                int to = land.otherSide(way, place) * FROMS + place + 1;
                if (chance > 0 && met[to] == 0 && more < STANDS) {
                    met[to] = 1;
                    queue[more] = to;
                    more++;
                }
                if (chance == 10) {
                    break;
                }
            }
            return more;
        }

        int fewestWhoStop(int bunch, int ofNerve) {
            begin(bunch, ofNerve);
            int roads = land.bitsOfKind(ROAD);
            int all = 1 << land.stretches;
            for (int count = 0; count <= MOST_CHANGES; count++) {
                int set = (1 << count) - 1;
                for (int round = 0; round < 1000 && set < all; round++) {
                    guarded = set;
                    if ((set >> stand.place[bunch] & 1) == 0 && (spread(bunch) & roads) == 0) {
                        return set;
                    }
                    set = count == 0 ? all : nextSet(set);
                }
            }
            return NONE;
        }

        int fewestToShut(int bunch) {
            begin(bunch, 0);
            int homes = land.bitsOfKind(HOME);
            int bad = land.bitsOfKind(GARDEN) | land.bitsOfKind(ROAD);
            int gates = openGates();
            int all = 1 << land.ways;
            for (int count = 0; count <= MOST_CHANGES; count++) {
                int set = (1 << count) - 1;
                for (int round = 0; round < 1000 && set < all; round++) {
                    shutToo = set;
                    int places = (set & ~gates) == 0 ? spread(bunch) : bad;
                    if ((places & bad) == 0 && (places & homes) != 0) {
                        return set;
                    }
                    set = count == 0 ? all : nextSet(set);
                }
            }
            return NONE;
        }

        private int openGates() {
            int gates = 0;
            for (int w = 0; w < land.ways; w++) {
                if (land.hasGate(w) && stand.isOpen(w)) {
                    gates |= 1 << w;
                }
            }
            return gates;
        }

        /** Out of oddsOfAll(moves). */
        long oddsOf(int bunch, int moves, int stretch) {
            begin(bunch, 0);
            Arrays.fill(now, 0);
            now[standOf(bunch)] = 1;
            for (int i = 0; i < moves; i++) {
                moveOdds();
            }
            long odds = 0;
            for (int from = 0; from < FROMS; from++) {
                odds += now[stretch * FROMS + from];
            }
            return odds;
        }

        long oddsOfAll(int moves) {
            long all = 1;
            for (int i = 0; i < moves; i++) {
                all *= PARTS;
            }
            return all;
        }

        private void moveOdds() {
            Arrays.fill(then, 0);
            for (int from = 0; from < STANDS; from++) {
                if (now[from] > 0) {
                    moveOddsFrom(from);
                }
            }
            long[] before = now;
            now = then;
            then = before;
        }

        private void moveOddsFrom(int from) {
            int place = from / FROMS;
            long left = now[from] * PARTS;
            for (int i = 0; i < land.countWaysAt(place); i++) {
                int way = land.wayAt(place, i);
                int chance = chanceOf(way, place, from % FROMS - 1);
                if (chance > 0) {
                    long taken = left / 10 * chance;
                    then[land.otherSide(way, place) * FROMS + place + 1] += taken;
                    left -= taken;
                }
            }
            then[from] += left;
        }
    }

    /** Whom to send where, and after which bunch to go first: all orders are tried, the lowest first. */
    static final class Errands {
        private final Land land;
        private final Stand stand;
        private final int[] goal = new int[MOST_PEOPLE];
        private final int[] choice = new int[MOST_PEOPLE];
        private final int[] chosen = new int[MOST_PEOPLE];
        private int count;
        private int least;
        private int person;

        Errands(Land land, Stand stand) {
            this.land = land;
            this.stand = stand;
        }

        /** In how many minutes the last of them is there; NONE, if they can't all be. */
        int sendAll(int people, int stretches) {
            least = NONE;
            count = 0;
            if (Integer.bitCount(stretches) > Math.min(MOST_PEOPLE, Integer.bitCount(people))) {
                return NONE;
            }
            for (int s = 0; s < land.stretches; s++) {
                if ((stretches >> s & 1) == 1 && count < MOST_PEOPLE) {
                    goal[count] = s;
                    count++;
                }
            }
            choosePerson(0, people, 0);
            return least;
        }

        int whoGoesTo(int stretch) {
            for (int i = 0; i < count && least != NONE; i++) {
                if (goal[i] == stretch) {
                    return chosen[i];
                }
            }
            return NONE;
        }

        private void choosePerson(int i, int free, int latest) {
            if (least != NONE && latest >= least) {
                return;
            }
            if (i >= count) {
                keepChoice(latest);
                return;
            }
            for (int p = 0; p < land.people; p++) {
                int soon = (free >> p & 1) == 1 ? land.minutesBetween(p, stand.at[p], goal[i]) : NONE;
                if (soon != NONE) {
                    choice[i] = p;
                    choosePerson(i + 1, free & ~(1 << p), Math.max(latest, soon));
                }
            }
        }

        private void keepChoice(int cost) {
            least = cost;
            System.arraycopy(choice, 0, chosen, 0, MOST_PEOPLE);
        }

        /** The least harm till the person has been at all bunches; NONE, if that can't be. */
        int goAfterAll(int who) {
            least = NONE;
            count = 0;
            person = who;
            int free = 0;
            for (int b = 0; b < MOST_BUNCHES; b++) {
                if (stand.hasBunch(b)) {
                    free |= 1 << b;
                    count++;
                }
            }
            if (count > 0) {
                chooseBunch(0, free, stand.at[who], 0, 0);
            }
            return least;
        }

        int bunchAt(int i) {
            return least != NONE && within(i, 0, count - 1) ? chosen[i] : NONE;
        }

        private void chooseBunch(int i, int free, int from, int minutes, int harm) {
            if (least != NONE && harm >= least) {
                return;
            }
            if (i >= count) {
                keepChoice(harm);
                return;
            }
            for (int b = 0; b < MOST_BUNCHES; b++) {
                int leg = (free >> b & 1) == 1 ? land.minutesBetween(person, from, stand.place[b]) : NONE;
                if (leg != NONE) {
                    int there = minutes + leg;
                    int more = stand.size[b] * land.harm[stand.place[b]] * there;
                    choice[i] = b;
                    chooseBunch(i + 1, free & ~(1 << b), stand.place[b], there, harm + more);
                }
            }
        }
    }
}
