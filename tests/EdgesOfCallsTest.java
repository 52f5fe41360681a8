import java.util.function.Supplier;

/**
 * The promises by their own words: of each argument the last that is taken and the first that is refused on each
 * side, the empty and the full, and that a refused call, like a question, leaves all as it was.
 */
public final class EdgesOfCallsTest {
    private static final int NONE = -1;

    private EdgesOfCallsTest() { }

    interface Args {
        long on(ElevenBullocks x, int[] a);
    }

    /** Something of everything, with room for more: two bunches that stand, two people, two texts, four steps. */
    private static ElevenBullocks some() {
        ElevenBullocks x = Edges.stretches(3, 0, 1, 2, 0);
        x.way(0, 1, false);
        x.way(1, 2, false);
        x.way(1, 4, false);
        x.way(4, 3, false);
        x.way(0, 4, true);
        x.person(3, false, false, 0);
        x.person(5, true, true, 4);
        Edges.tell(x, "pays 50;stretch 0 harm 0;");
        Edges.tell(x, "pace 0;takes 4;");
        x.by(1);
        x.image();
        x.stray(5, 1);
        x.stray(3, 4);
        x.send(0, 2);
        x.minute(1);
        x.seen(2, 9);
        x.tried(1, true);
        x.mending(1, 5, 5, 5, 5);
        Texts.tell(x, "pace $;");
        x.feed(0x70616365, 0x20313b20, 0x20202020, 0x20202020, 0x20202020);
        return x;
    }

    private static ElevenBullocks with(ElevenBullocks x, Edges.Call call) {
        call.on(x);
        return x;
    }

    private static String told(String name, int[] a) {
        StringBuilder call = new StringBuilder(name).append('(');
        for (int i = 0; i < a.length; i++) {
            call.append(i > 0 ? ", " : "").append(a[i]);
        }
        return call.append(')').toString();
    }

    /** Each argument at both ends of its range, and one beyond and far beyond them, the others as in base. */
    private static void ranges(String name, Supplier<ElevenBullocks> make, Args call, long refusal, int[] base,
            int[]... ranges) {
        for (int i = 0; i < ranges.length; i++) {
            for (int end : ranges[i]) {
                int[] a = base.clone();
                a[i] = end;
                Edges.due(told(name, a) + " is taken", call.on(make.get(), a) != refusal, true);
            }
            int[] beyond = {ranges[i][0] - 1, ranges[i][1] + 1, Integer.MIN_VALUE, Integer.MAX_VALUE};
            for (int value : beyond) {
                int[] a = base.clone();
                a[i] = value;
                Edges.refused(told(name, a), make, x -> call.on(x, a), refusal);
            }
        }
    }

    /** The same of a question: what it answers, it changes nothing. */
    private static void questions(String name, Supplier<ElevenBullocks> make, Args call, long refusal, int[] base,
            int[]... ranges) {
        ranges(name, make, call, refusal, base, ranges);
        for (int i = 0; i < ranges.length; i++) {
            for (int end : ranges[i]) {
                int[] a = base.clone();
                a[i] = end;
                Edges.asked(told(name, a), make, x -> call.on(x, a), call.on(make.get(), a));
            }
        }
    }

    private static int[] to(int least, int most) {
        return new int[] {least, most};
    }

    private static int[] of(int... a) {
        return a;
    }

    private static void told() {
        Edges.edge("No STRETCHES; THE IMAGE is this.", () -> {
            ElevenBullocks x = new ElevenBullocks();
            Edges.due("stretches", x.about(0), 0);
            Edges.due("ofStretch(0, 0)", x.ofStretch(0, 0), NONE);
            Edges.due("way(0, 1)", x.way(0, 1, false), NONE);
            Edges.due("person(0, .., 0)", x.person(0, false, false, 0), NONE);
            Edges.due("stray(1, 0)", x.stray(1, 0), NONE);
            Edges.refused("back() of a new one", ElevenBullocks::new, ElevenBullocks::back, 0);
            ElevenBullocks y = Edges.lanes(12);
            y.stray(5, 1);
            y.person(1, true, true, 0);
            y.gate(0, false);
            y.day(77, 30);
            y.seen(0, 0);
            y.tried(0, true);
            y.mending(0, 10, 0, 10, 10);
            Edges.due("back()", y.back(), 0);
            Edges.due("all is as in a new one", Edges.all(y).equals(Edges.all(x)), true);
        });
        Edges.edge("A STRETCH: its number. NONE for others, or if there are 12.", () -> {
            ranges("stretch", EdgesOfCallsTest::some, (x, a) -> x.stretch(a[0], a[1]), NONE, of(1, 7), to(0, 3),
                to(0, 99));
            ElevenBullocks x = Edges.stretches(new int[11]);
            Edges.due("the twelfth", x.stretch(3, 99), 11);
            Edges.refused("a thirteenth", () -> Edges.stretches(new int[12]), y -> y.stretch(0, 0), NONE);
        });
        Edges.edge("A WAY, or a PATH: its number. NONE for others, if one of both has 4, or if there are 16.", () -> {
            ranges("way", EdgesOfCallsTest::some, (x, a) -> x.way(a[0], a[1], false), NONE, of(2, 3), to(0, 4),
                to(0, 4));
            ranges("path", EdgesOfCallsTest::some, (x, a) -> x.way(a[0], a[1], true), NONE, of(2, 3), to(0, 4),
                to(0, 4));
            Edges.refused("to itself", EdgesOfCallsTest::some, x -> x.way(3, 3, false), NONE);
            Edges.refused("a path to itself", EdgesOfCallsTest::some, x -> x.way(3, 3, true), NONE);
            Edges.due("the fourth at 4", some().way(4, 3, false), 5);
            Edges.refused("a fifth at 4", () -> with(some(), x -> x.way(4, 3, false)), x -> x.way(4, 2, false), NONE);
            Edges.refused("a fifth at 4, from 2", () -> with(some(), x -> x.way(4, 3, true)), x -> x.way(2, 4, true),
                NONE);
            Edges.due("the sixteenth", fifteenWays().way(11, 0, true), 15);
            Edges.refused("a seventeenth", () -> with(fifteenWays(), x -> x.way(11, 0, true)),
                x -> x.way(11, 0, false), NONE);
            Edges.refused("a seventeenth, a path", () -> with(fifteenWays(), x -> x.way(11, 0, false)),
                x -> x.way(11, 0, true), NONE);
        });
        Edges.edge("A PERSON: the number. NONE for others, or if there are 6.", () -> {
            ranges("person", EdgesOfCallsTest::some, (x, a) -> x.person(a[0], true, true, a[1]), NONE, of(5, 0),
                to(0, 9), to(0, 4));
            Edges.due("the sixth", fivePeople().person(9, true, false, 1), 5);
            Edges.refused("a seventh", () -> with(fivePeople(), x -> x.person(0, false, false, 0)),
                x -> x.person(0, false, false, 0), NONE);
        });
    }

    /** Twelve lanes, ten of them with three ways or fewer: 11 and 0 have room for one more each and then another. */
    private static ElevenBullocks fifteenWays() {
        ElevenBullocks x = Edges.lanes(12);
        for (int i = 1; i < 8; i += 2) {
            x.way(i, i + 2, i > 4);
        }
        return x;
    }

    private static ElevenBullocks fivePeople() {
        ElevenBullocks x = Edges.lanes(2);
        for (int i = 0; i < 5; i++) {
            x.person(i, false, false, 0);
        }
        return x;
    }

    /** One with a FAULT has clauses and laws that were read already: none of them is there in the next. */
    private static void leavesNothing() {
        ElevenBullocks x = bunches(2);
        for (int i = 0; i < 3; i++) {
            Texts.tell(x, "pace 2;takes " + "1+".repeat(140) + "$");
            Texts.tell(x, "shut 0;".repeat(24) + "$");
        }
        Edges.due("an empty one", x.text(), 0);
        Edges.due("no clauses", x.played(0), NONE);
        Edges.due("nothing was done", x.ofWay(0, 3), 1);
        x.by(0);
        Edges.due("no pace", x.bunch(0, 3), 1);
        Edges.due("no takes", x.takes(0, 0), 5);
        Texts.tell(x, "pays " + "1+".repeat(140) + "$");
        Texts.tell(x, "pays " + "1+".repeat(140) + "$");
        x.by(Edges.tell(x, "takes " + "1+".repeat(6) + "0*" + "1*".repeat(100) + "1;" + "shut 0;"));
        Edges.due("all of the next", x.takes(0, 0), 6);
        Edges.due("its clauses", x.played(1), NONE);
        Edges.due("done", x.ofWay(0, 3), 0);
    }

    private static ElevenBullocks fed(int times) {
        ElevenBullocks x = new ElevenBullocks();
        for (int i = 0; i < times; i++) {
            x.feed(0x20202020, 0x20202020, 0x20202020, 0x20202020, 0x20202020);
        }
        return x;
    }

    private static ElevenBullocks texts(int n) {
        ElevenBullocks x = Edges.lanes(2);
        for (int i = 0; i < n; i++) {
            Edges.tell(x, "pays " + i + ";");
        }
        return x;
    }

    private static void tape() {
        Edges.edge("Twenty bytes come behind the tape, the highest of a first: how many it has. "
            + "NONE, and none come, if there would be more than 300.", () -> {
            ElevenBullocks x = fed(0);
            Edges.due("feed of an empty tape", x.feed(0x73747265, 0x74636820, 0x30206861, 0x726d2037, 0x3b202020), 20);
            x.end(17);
            Edges.due("the bytes in their order", x.text(), 0);
            Edges.due("played", x.played(0), NONE);
            Edges.due("harm", x.ofStretch(0, 1), 7);
            Edges.due("the highest bit of a byte", fed(0).feed(-1, -1, -1, -1, -1), 20);
            Edges.due("feed to 300", fed(14).feed(0, 0, 0, 0, 0), 300);
            Edges.refused("feed beyond 300", () -> fed(15), y -> y.feed(0, 0, 0, 0, 0), NONE);
            Edges.refused("feed from 281", () -> with(fed(15), y -> y.end(281)), y -> y.feed(0, 0, 0, 0, 0), NONE);
            Edges.due("feed from 280", with(fed(15), y -> y.end(280)).feed(0, 0, 0, 0, 0), 300);
        });
        Edges.edge("The tape has its first n bytes alone: n. NONE, and nothing is done, if it has not so many, or n is"
            + " below 0.", () -> {
            ranges("end", EdgesOfCallsTest::some, (x, a) -> x.end(a[0]), NONE, of(3), to(0, 20));
            ranges("end of an empty tape", () -> fed(0), (x, a) -> x.end(a[0]), NONE, of(0), to(0, 0));
            ranges("end of a full tape", () -> fed(15), (x, a) -> x.end(a[0]), NONE, of(0), to(0, 300));
            ElevenBullocks x = some();
            x.end(7);
            Edges.due("the first 7 alone", x.text(), 2);
        });
        Edges.edge("The tape (empty then) is a TEXT: its number. NONE: it has a FAULT; or (the tape stays) there are 4.",
            () -> {
            ElevenBullocks x = texts(3);
            Edges.due("the fourth, of an empty tape", x.text(), 3);
            ElevenBullocks y = texts(3);
            Edges.due("one with a fault", Texts.tell(y, "pays 1"), NONE);
            Edges.due("empty then, too", y.about(12), 0);
            Edges.due("no text", y.about(7), 3);
            Edges.due("its number is free still", Texts.tell(y, "pays 1;"), 3);
            Edges.due("empty then", y.about(12), 0);
            leavesNothing();
            Edges.refused("a fifth of an empty tape", () -> texts(4), ElevenBullocks::text, NONE);
            Edges.refused("a fifth", () -> with(texts(4), z -> z.feed(0x70616365, 0x20313b20, 0x20202020, 0, 0)),
                ElevenBullocks::text, NONE);
            Edges.refused("a fifth, with a fault", () -> with(texts(4), z -> z.feed(1, 2, 3, 4, 5)),
                ElevenBullocks::text, NONE);
        });
        Edges.edge("Of the latest text that was read: 0 its FAULT (0 without), 1 its place (NONE without). NONE for"
            + " others, and ahead of any.", () -> {
            questions("fault", EdgesOfCallsTest::some, (x, a) -> x.fault(a[0]), NONE, of(0), to(0, 1));
            Edges.asked("ahead of any", () -> fed(1), x -> x.fault(0), NONE);
            Edges.asked("its place", () -> fed(1), x -> x.fault(1), NONE);
            ElevenBullocks x = some();
            Edges.due("the latest: its fault", x.fault(0), 1);
            Edges.due("its place", x.fault(1), 5);
            x.end(0);
            x.text();
            Edges.due("without, behind one with", x.fault(0), 0);
            Edges.due("no place", x.fault(1), NONE);
            Edges.due("fault(2)", x.fault(2), NONE);
            Texts.tell(x, "$");
            Edges.due("a place of 0", x.fault(1), 0);
            x.text();
            Edges.due("of an empty one", x.fault(0), 0);
            Texts.tell(x, "$");
            Edges.due("a fifth is not read", x.fault(0), 0);
        });
        Edges.edge("THE TEXT (NONE: none): true. False for others.", () -> {
            ranges("by", EdgesOfCallsTest::some, (x, a) -> Edges.n(x.by(a[0])), 0, of(0), to(NONE, 1));
            ranges("by, of four", () -> texts(4), (x, a) -> Edges.n(x.by(a[0])), 0, of(0), to(NONE, 3));
            ranges("by, of none", () -> texts(0), (x, a) -> Edges.n(x.by(a[0])), 0, of(NONE), to(NONE, NONE));
            ElevenBullocks x = some();
            Edges.due("by(NONE)", x.by(NONE), true);
            Edges.due("none rules", x.about(8), NONE);
            Edges.due("pace without", x.bunch(0, 3), 1);
            Edges.due("so already", x.by(NONE), true);
        });
    }

    private static ElevenBullocks bunches(int... sizes) {
        ElevenBullocks x = Edges.lanes(3);
        for (int size : sizes) {
            x.stray(size, 1);
        }
        return x;
    }

    private static void done() {
        Edges.edge("STRAYED: the BUNCH. NONE for others, if there would be more than 24, or 4 are there.", () -> {
            ranges("stray", EdgesOfCallsTest::some, (x, a) -> x.stray(a[0], a[1]), NONE, of(1, 0), to(1, 16), to(0, 4));
            ranges("stray, of none yet", () -> Edges.lanes(2), (x, a) -> x.stray(a[0], a[1]), NONE, of(1, 0),
                to(1, 24), to(0, 1));
            Edges.refused("one more than 24", () -> bunches(24), x -> x.stray(1, 0), NONE);
            Edges.due("the 24th", bunches(10, 13).stray(1, 0), 2);
            Edges.due("the fourth", bunches(1, 1, 1).stray(21, 0), 3);
            Edges.refused("a fifth", () -> bunches(1, 1, 1, 1), x -> x.stray(1, 0), NONE);
        });
        Edges.edge("MINUTES go by (1 .. 60): all that is DONE then. NONE for others, or beyond 999.", () -> {
            ranges("minute", EdgesOfCallsTest::some, (x, a) -> x.minute(a[0]), NONE, of(1), to(1, 60));
            ElevenBullocks x = some();
            Edges.due("all that is DONE: two at a time, 5 and 3", x.minute(60), 61 * 8);
            Edges.due("to 999", Edges.later(some(), 958).minute(40), 999 * 8);
            Edges.refused("from 960 beyond 999", () -> Edges.later(Edges.lanes(2), 960), y -> y.minute(40), NONE);
            Edges.refused("from 940 beyond 999", () -> Edges.later(Edges.lanes(2), 940), y -> y.minute(60), NONE);
            Edges.refused("from 999", () -> Edges.later(Edges.lanes(2), 999), y -> y.minute(1), NONE);
            Edges.due("from 998", Edges.later(Edges.lanes(2), 998).minute(1), 0);
        });
        Edges.edge("SENT: true. False for others, and if it is so.", () -> {
            ranges("send", EdgesOfCallsTest::some, (x, a) -> Edges.n(x.send(a[0], a[1])), 0, of(0, 3), to(0, 1),
                to(NONE, 4));
            Edges.refused("where it is SENT", EdgesOfCallsTest::some, x -> Edges.n(x.send(0, 2)), 0);
            Edges.refused("nowhere, and it is so", EdgesOfCallsTest::some, x -> Edges.n(x.send(1, NONE)), 0);
            Edges.refused("nobody is there", () -> Edges.lanes(2), x -> Edges.n(x.send(0, 0)), 0);
            Edges.due("nowhere", some().send(0, NONE), true);
        });
        Edges.edge("SHUT, or OPENED: true. False for others, and if it is so.", () -> {
            ranges("gate, false", EdgesOfCallsTest::some, (x, a) -> Edges.n(x.gate(a[0], false)), 0, of(0), to(0, 3));
            ranges("gate, true", EdgesOfCallsTest::allShut, (x, a) -> Edges.n(x.gate(a[0], true)), 0, of(0), to(0, 3));
            Edges.refused("it is OPEN", EdgesOfCallsTest::some, x -> Edges.n(x.gate(3, true)), 0);
            Edges.refused("it is SHUT", EdgesOfCallsTest::allShut, x -> Edges.n(x.gate(0, false)), 0);
            Edges.refused("a PATH, to shut", EdgesOfCallsTest::some, x -> Edges.n(x.gate(4, false)), 0);
            Edges.refused("a PATH, to open", EdgesOfCallsTest::some, x -> Edges.n(x.gate(4, true)), 0);
            Edges.refused("none such", EdgesOfCallsTest::some, x -> Edges.n(x.gate(5, false)), 0);
        });
        Edges.edge("SPLIT: the new BUNCH. NONE for others.", () -> {
            ranges("split", EdgesOfCallsTest::some, (x, a) -> x.split(a[0], a[1]), NONE, of(0, 1), to(0, 1), to(1, 4));
            Edges.refused("of one beast", () -> bunches(1), x -> x.split(0, 1), NONE);
            Edges.refused("all of 24", () -> bunches(24), x -> x.split(0, 24), NONE);
            Edges.due("23 of 24", bunches(24).split(0, 23), 1);
            Edges.refused("of SIZE 0", () -> bunches(3), x -> x.split(1, 1), NONE);
            Edges.due("the fourth", bunches(3, 1, 1).split(0, 2), 3);
            Edges.refused("4 are there", () -> bunches(3, 1, 1, 1), x -> x.split(0, 1), NONE);
        });
    }

    private static ElevenBullocks allShut() {
        ElevenBullocks x = some();
        for (int w = 0; w < 4; w++) {
            x.gate(w, false);
        }
        return x;
    }

    private static ElevenBullocks script(String text) {
        ElevenBullocks x = Edges.lanes(3);
        Edges.tell(x, text);
        return x;
    }

    private static void byScripts() {
        Edges.edge("PLAYED by a TEXT: NONE: all is done; else the number of the CLAUSE that can't be. -2 for others.",
            () -> {
            ranges("played", EdgesOfCallsTest::some, (x, a) -> x.played(a[0]), -2, of(0), to(0, 1));
            ranges("played, of four", () -> texts(4), (x, a) -> x.played(a[0]), -2, of(0), to(0, 3));
            Edges.refused("played(0) of none", () -> texts(0), x -> x.played(0), -2);
            Edges.refused("an empty one: all is done", () -> script(""), x -> x.played(0), NONE);
            Edges.refused("laws alone", () -> script("pace 1;takes 2;pays 3;"), x -> x.played(0), NONE);
            Edges.refused("the first can't be", () -> script("way 1 to 1;stretch 0 harm 0;"), x -> x.played(0), 0);
            Edges.due("24 clauses", script("stray 1 at 0;" + "minute 1;".repeat(23)).played(0), NONE);
            Edges.due("the last of 24 can't be", script("minute 1;".repeat(23) + "open 0;").played(0), 23);
        });
        Edges.edge("A DAY: all that is DONE then. NONE for others, and without WAYS.", () -> {
            ranges("day", EdgesOfCallsTest::some, (x, a) -> x.day(a[0], a[1]), NONE, of(5, 3), to(0, 9999), to(1, 30));
            Edges.refused("without STRETCHES", ElevenBullocks::new, x -> x.day(0, 1), NONE);
            Edges.refused("without WAYS", () -> Edges.stretches(0, 0), x -> x.day(0, 1), NONE);
            Edges.due("with a PATH alone", with(Edges.stretches(0, 0), x -> x.way(0, 1, true)).day(0, 1), 0);
        });
        Edges.edge("The latest STEP is taken back: how many can be yet. NONE: there is none.", () -> {
            Edges.refused("none of a new one", ElevenBullocks::new, ElevenBullocks::undo, NONE);
            Edges.refused("none of one that was told", () -> Edges.lanes(3), ElevenBullocks::undo, NONE);
            ElevenBullocks x = some();
            for (int yet = 3; yet >= 0; yet--) {
                Edges.due("undo()", x.undo(), yet);
            }
            Edges.due("none any more", x.undo(), NONE);
            Edges.refused("none any more", () -> with(bunches(3), ElevenBullocks::undo), ElevenBullocks::undo, NONE);
        });
    }

    private static void ofParts() {
        Edges.edge("Of a BUNCH: 0 SIZE, 1 STRETCH (NONE: none), 2 CAME (NONE), 3 pace now. -2 for others; NONE if its"
            + " SIZE is 0 (but 0).", () -> {
            questions("bunch", EdgesOfCallsTest::some, (x, a) -> x.bunch(a[0], a[1]), -2, of(0, 0), to(0, 3), to(0, 3));
            questions("bunch, of none", ElevenBullocks::new, (x, a) -> x.bunch(a[0], a[1]), -2, of(3, 3), to(0, 3),
                to(0, 3));
            ElevenBullocks x = some();
            Edges.due("SIZE 0", x.bunch(2, 0), 0);
            for (int what = 1; what < 4; what++) {
                Edges.due("none: " + what, x.bunch(2, what), NONE);
            }
            Edges.due("CAME from none", x.bunch(0, 2), NONE);
            Edges.due("pace now", x.bunch(0, 3), 0);
        });
        Edges.edge("Of a PERSON: 0 NERVE, 1 WHEELS (1, 0), 2 BUCKET, 3 STRETCH, 4 SENT (NONE). -2 for others.", () -> {
            questions("ofPerson", EdgesOfCallsTest::some, (x, a) -> x.ofPerson(a[0], a[1]), -2, of(0, 0), to(0, 1),
                to(0, 4));
            Edges.asked("ofPerson(0, 0) of none", () -> Edges.lanes(2), x -> x.ofPerson(0, 0), -2);
            int[][] want = {{3, 0, 0, 1, 2}, {5, 1, 1, 4, NONE}};
            for (int p = 0; p < 2; p++) {
                for (int what = 0; what < 5; what++) {
                    Edges.due("ofPerson(" + p + ", " + what + ")", some().ofPerson(p, what), want[p][what]);
                }
            }
        });
        Edges.edge("Of a STRETCH: 0 KIND, 1 HARM, 2 DONE, 3 WAYS at it (bits). NONE for others.", () -> {
            questions("ofStretch", EdgesOfCallsTest::some, (x, a) -> x.ofStretch(a[0], a[1]), NONE, of(0, 0), to(0, 4),
                to(0, 3));
            Edges.asked("ofStretch(0, 3) of none", ElevenBullocks::new, x -> x.ofStretch(0, 3), NONE);
            Edges.due("no WAYS", Edges.stretches(0).ofStretch(0, 3), 0);
            Edges.due("PATHS, too", some().ofStretch(4, 3), 28);
            Edges.due("the highest way", with(fifteenWays(), x -> x.way(11, 0, true)).ofStretch(11, 3), 1 << 15 | 1 << 10);
        });
        Edges.edge("Of a WAY: 0, 1 its STRETCHES, 2 whether a PATH (1, 0), 3 whether OPEN. NONE for others.", () -> {
            questions("ofWay", EdgesOfCallsTest::some, (x, a) -> x.ofWay(a[0], a[1]), NONE, of(0, 0), to(0, 4),
                to(0, 3));
            Edges.asked("ofWay(0, 0) of none", () -> Edges.stretches(0, 0), x -> x.ofWay(0, 0), NONE);
            int[] path = {0, 4, 1, 1};
            int[] shut = {4, 3, 0, 0};
            for (int what = 0; what < 4; what++) {
                Edges.due("of a PATH: " + what, allShut().ofWay(4, what), path[what]);
                Edges.due("of a GATE: " + what, allShut().ofWay(3, what), shut[what]);
            }
        });
        Edges.edge("What takes says of a BUNCH and a WAY at its STRETCH (0 if it is SHUT). NONE for others, and of"
            + " PATHS.", () -> {
            questions("takes", EdgesOfCallsTest::some, (x, a) -> x.takes(a[0], a[1]), NONE, of(0, 0), to(0, 0), to(0, 2));
            questions("takes, of 1", EdgesOfCallsTest::some, (x, a) -> x.takes(a[0], a[1]), NONE, of(1, 3), to(1, 1),
                to(2, 3));
            Edges.asked("of a PATH", EdgesOfCallsTest::some, x -> x.takes(1, 4), NONE);
            Edges.asked("OPEN", EdgesOfCallsTest::some, x -> x.takes(0, 0), 4);
            Edges.asked("SHUT", EdgesOfCallsTest::allShut, x -> x.takes(0, 0), 0);
            Edges.asked("SHUT, but not at its STRETCH", EdgesOfCallsTest::allShut, x -> x.takes(0, 3), NONE);
            Edges.asked("of SIZE 0", EdgesOfCallsTest::some, x -> x.takes(2, 0), NONE);
        });
    }

    /** Without a law, somebody who stands in the way stops them: so the road is shut off from bunch 0. */
    private static ElevenBullocks unruled() {
        return with(some(), x -> Edges.n(x.by(NONE)));
    }

    private static ElevenBullocks homeward() {
        ElevenBullocks x = Edges.row(3, 0);
        x.stray(1, 0);
        x.stray(2, 1);
        return x;
    }

    private static ElevenBullocks twoAndTwo() {
        ElevenBullocks x = Edges.lanes(2);
        x.person(1, false, false, 0);
        x.person(2, true, true, 1);
        return x;
    }

    private static void asked() {
        Edges.edge("WHERE: the upper (low false), the lower one (low true). NONE for others.", () -> {
            questions("where, upper", EdgesOfCallsTest::some, (x, a) -> x.where(a[0], a[1], a[2], false), NONE,
                of(0, 2, 1), to(0, 1), to(0, 4), to(0, 4));
            questions("where, lower", EdgesOfCallsTest::some, (x, a) -> x.where(a[0], a[1], a[2], true), NONE,
                of(0, 2, 1), to(0, 1), to(0, 4), to(0, 4));
            Edges.asked("of SIZE 0", EdgesOfCallsTest::some, x -> x.where(2, 0, 0, true), NONE);
        });
        Edges.edge("CAN COME (bits). NONE for others.", () -> {
            questions("canCome", EdgesOfCallsTest::some, (x, a) -> x.canCome(a[0]), NONE, of(0), to(0, 1));
            questions("canCome, of four", () -> bunches(1, 1, 1, 1), (x, a) -> x.canCome(a[0]), NONE, of(0), to(0, 3));
            Edges.asked("of none", () -> Edges.lanes(2), x -> x.canCome(0), NONE);
        });
        Edges.edge("STOPPED (bits). NONE: none, and for others.", () -> {
            questions("stopped", EdgesOfCallsTest::unruled, (x, a) -> x.stopped(a[0], a[1]), NONE, of(0, 9), to(0, 1),
                to(0, 9));
            Edges.asked("nobody has to stand", EdgesOfCallsTest::unruled, x -> x.stopped(0, 0), 0);
            Edges.asked("somebody at the road", EdgesOfCallsTest::unruled, x -> x.stopped(1, 1), 8);
            Edges.asked("none: a NERVE of 0", EdgesOfCallsTest::unruled, x -> x.stopped(1, 0), NONE);
            Edges.asked("none: a law that does not ask", EdgesOfCallsTest::some, x -> x.stopped(0, 9), NONE);
        });
        Edges.edge("HOW SOON. NONE: none, and for others.", () -> {
            questions("soon", EdgesOfCallsTest::some, (x, a) -> x.soon(a[0], a[1]), NONE, of(0, 2), to(0, 1), to(0, 4));
            Edges.asked("none", () -> with(some(), x -> x.stretch(0, 0)), x -> x.soon(0, 5), NONE);
            Edges.asked("nobody", () -> Edges.lanes(2), x -> x.soon(0, 0), NONE);
        });
        Edges.edge("WHOM TO SEND: MINUTES (stretch NONE), the PERSON for a STRETCH. NONE: none, and for others.", () -> {
            questions("whom", EdgesOfCallsTest::twoAndTwo, (x, a) -> x.whom(a[0], a[1], a[2]), NONE, of(3, 1, NONE),
                to(1, 3), to(1, 3), to(NONE, 0));
            questions("whom, for both", EdgesOfCallsTest::twoAndTwo, (x, a) -> x.whom(a[0], a[1], a[2]), NONE,
                of(3, 3, NONE), to(3, 3), to(1, 3), to(NONE, 1));
            Edges.asked("no STRETCHES", EdgesOfCallsTest::twoAndTwo, x -> x.whom(3, 0, NONE), NONE);
            Edges.asked("neither", EdgesOfCallsTest::twoAndTwo, x -> x.whom(0, 0, NONE), NONE);
            Edges.asked("neither, of a new one", ElevenBullocks::new, x -> x.whom(0, 0, NONE), NONE);
            Edges.asked("one that is not of the set", EdgesOfCallsTest::twoAndTwo, x -> x.whom(3, 1, 1), NONE);
            Edges.asked("two that are and one that isn't", EdgesOfCallsTest::twoAndTwo, x -> x.whom(7, 1, NONE), NONE);
            Edges.asked("one that is and one that isn't", EdgesOfCallsTest::twoAndTwo, x -> x.whom(5, 1, NONE), NONE);
            Edges.asked("a STRETCH that is and one that isn't", EdgesOfCallsTest::twoAndTwo, x -> x.whom(3, 5, NONE),
                NONE);
            Edges.asked("who for the one that is", EdgesOfCallsTest::twoAndTwo, x -> x.whom(3, 5, 0), NONE);
        });
        Edges.edge("HOME (bits of WAYS). NONE: none, and for others.", () -> {
            questions("home", EdgesOfCallsTest::homeward, (x, a) -> x.home(a[0]), NONE, of(0), to(0, 1));
            Edges.asked("none has to be SHUT", EdgesOfCallsTest::homeward, x -> x.home(0), 0);
            Edges.asked("none: no home", () -> bunches(1), x -> x.home(0), NONE);
        });
        Edges.edge("SEEN: how many there are (stretch NONE: none any more). -2 for others, or if there are 6.", () -> {
            ranges("seen", EdgesOfCallsTest::some, (x, a) -> x.seen(a[0], a[1]), -2, of(0, 0), to(NONE, 4), to(0, 60));
            Edges.due("the sixth", sights(5).seen(1, 60), 6);
            Edges.refused("a seventh", () -> sights(6), x -> x.seen(1, 0), -2);
            Edges.due("none any more", sights(6).seen(NONE, 0), 0);
            Edges.due("none any more, of none", sights(0).seen(NONE, 0), 0);
            Edges.due("anew", with(sights(6), x -> x.seen(NONE, 0)).seen(0, 0), 1);
        });
        Edges.edge("WHICH GATE (bits of WAYS).", () -> {
            Edges.asked("of a new one", ElevenBullocks::new, ElevenBullocks::which, 0);
            Edges.asked("of some", EdgesOfCallsTest::some, ElevenBullocks::which, 1);
            Edges.asked("the highest", EdgesOfCallsTest::homeAtTheEnd, ElevenBullocks::which, 1 << 15);
        });
        Edges.edge("HOW MANY: the upper (low false), the lower one (low true). NONE for others, and if c can't be"
            + " counted.", () -> {
            questions("many, upper", EdgesOfCallsTest::some, (x, a) -> x.many(a[0], a[1], a[2], false), NONE,
                of(5, 3, 6), to(0, 9), to(0, 12), to(0, 12));
            questions("many, lower", EdgesOfCallsTest::some, (x, a) -> x.many(a[0], a[1], a[2], true), NONE,
                of(5, 3, 6), to(0, 9), to(0, 12), to(0, 12));
            Edges.asked("12 of 12, each overlooked with 9", ElevenBullocks::new, x -> x.many(9, 12, 12, true), 1);
        });
        Edges.edge("AFTER WHICH: that HARM (i NONE), the i-th BUNCH. NONE: none, there is none such, and for others.",
            () -> {
            questions("after", EdgesOfCallsTest::some, (x, a) -> x.after(a[0], a[1]), NONE, of(0, 0), to(0, 1),
                to(NONE, 1));
            questions("after four", () -> with(bunches(1, 2, 3, 4), x -> x.person(0, false, false, 0)),
                (x, a) -> x.after(a[0], a[1]), NONE, of(0, 0), to(0, 0), to(NONE, 3));
            Edges.asked("there is none", EdgesOfCallsTest::twoAndTwo, x -> x.after(0, NONE), NONE);
            Edges.asked("nor a first", EdgesOfCallsTest::twoAndTwo, x -> x.after(0, 0), NONE);
        });
    }

    private static ElevenBullocks sights(int n) {
        ElevenBullocks x = Edges.row(3, 0);
        for (int i = 0; i < n; i++) {
            x.seen(i % 2, i * 12);
        }
        return x;
    }

    /** Eleven lanes with fifteen ways, and a home that hangs at 0 by the sixteenth. */
    private static ElevenBullocks homeAtTheEnd() {
        ElevenBullocks x = Edges.lanes(11);
        for (int i = 1; i < 6; i++) {
            x.way(i, i + 2, false);
        }
        x.stretch(3, 0);
        x.way(11, 0, false);
        return x;
    }

    private static void paid() {
        Edges.edge("PAYS by a TEXT (NONE: without). NONE for others.", () -> {
            questions("pays", EdgesOfCallsTest::some, (x, a) -> x.pays(a[0], a[1]), NONE, of(1, 0), to(0, 4),
                to(NONE, 1));
            questions("pays, of no text", () -> bunches(1), (x, a) -> x.pays(a[0], a[1]), NONE, of(0, NONE), to(0, 2),
                to(NONE, NONE));
            Edges.asked("without", EdgesOfCallsTest::some, x -> x.pays(1, NONE), 5);
            Edges.asked("by one", EdgesOfCallsTest::some, x -> x.pays(1, 0), 2);
        });
        Edges.edge("CHEAPEST. NONE: without a TEXT.", () -> {
            Edges.asked("of a new one", ElevenBullocks::new, ElevenBullocks::cheapest, NONE);
            Edges.asked("nothing is DONE at gardens", EdgesOfCallsTest::some, ElevenBullocks::cheapest, NONE);
            Edges.asked("the last of four", () -> garden(3), ElevenBullocks::cheapest, 3);
            Edges.asked("the first of four", () -> garden(0), ElevenBullocks::cheapest, 0);
            Edges.asked("none is cheaper than without", () -> garden(4), ElevenBullocks::cheapest, NONE);
            Edges.asked("at the last of twelve", EdgesOfCallsTest::lastGarden, ElevenBullocks::cheapest, 1);
        });
        Edges.edge("MENDING told: true. False for others.", () -> {
            ranges("mending", EdgesOfCallsTest::some, (x, a) -> Edges.n(x.mending(a[0], a[1], a[2], a[3], a[4])), 0,
                of(0, 1, 1, 1, 1), to(0, 3), to(0, 10), to(0, 999), to(0, 999), to(1, 99));
            Edges.refused("of a PATH", EdgesOfCallsTest::some, x -> Edges.n(x.mending(4, 1, 1, 1, 1)), 0);
            Edges.refused("of none such", EdgesOfCallsTest::some, x -> Edges.n(x.mending(5, 1, 1, 1, 1)), 0);
        });
        Edges.edge("SAVED (way), BEST GATE (way NONE; NONE: none). -10000 for others, and if it wasn't told.", () -> {
            questions("saved", EdgesOfCallsTest::mended, (x, a) -> x.saved(a[0]), -10000, of(0), to(NONE, 3));
            Edges.asked("of a PATH", EdgesOfCallsTest::mended, x -> x.saved(4), -10000);
            Edges.asked("it wasn't told", EdgesOfCallsTest::some, x -> x.saved(0), -10000);
            Edges.asked("none", () -> Edges.lanes(2), x -> x.saved(NONE), NONE);
            Edges.asked("none, of a new one", ElevenBullocks::new, x -> x.saved(NONE), NONE);
            Edges.asked("saved(0) of a new one", ElevenBullocks::new, x -> x.saved(0), -10000);
        });
        Edges.edge("TRIED: how many there are (how NONE: none any more). -2 for others, or if there are 12.", () -> {
            ranges("tried", EdgesOfCallsTest::some, (x, a) -> x.tried(a[0], true), -2, of(0), to(NONE, 3));
            ranges("tried, not turned", EdgesOfCallsTest::some, (x, a) -> x.tried(a[0], false), -2, of(0), to(NONE, 3));
            Edges.due("the twelfth", tries(11).tried(3, true), 12);
            Edges.refused("a thirteenth", () -> tries(12), x -> x.tried(0, true), -2);
            Edges.due("none any more", tries(12).tried(NONE, true), 0);
            Edges.due("none any more, of none", tries(0).tried(NONE, false), 0);
            ElevenBullocks y = tries(12);
            y.tried(NONE, true);
            Edges.due("anew", y.tried(1, false), 1);
            Edges.due("what turned them is gone, too", y.turned(1, false), 0);
            Edges.due("and the lower one", y.turned(1, true), 1);
        });
        Edges.edge("TURNED: the upper (low false), the lower one (low true). NONE for others, and if it wasn't TRIED.",
            () -> {
            questions("turned, upper", () -> tries(12), (x, a) -> x.turned(a[0], false), NONE, of(0), to(0, 3));
            questions("turned, lower", () -> tries(12), (x, a) -> x.turned(a[0], true), NONE, of(0), to(0, 3));
            Edges.asked("it wasn't TRIED", EdgesOfCallsTest::some, x -> x.turned(0, false), NONE);
            Edges.asked("nor the lower one", EdgesOfCallsTest::some, x -> x.turned(0, true), NONE);
            Edges.asked("TRIED once", EdgesOfCallsTest::some, x -> x.turned(1, false), 1);
        });
        Edges.edge("BEST how. NONE: none.", () -> {
            Edges.asked("none", ElevenBullocks::new, ElevenBullocks::best, NONE);
            Edges.asked("none any more", () -> with(tries(12), x -> x.tried(NONE, true)), ElevenBullocks::best, NONE);
            Edges.asked("one alone", EdgesOfCallsTest::some, ElevenBullocks::best, 1);
            Edges.asked("one that never turned them", () -> tries(1), ElevenBullocks::best, 0);
        });
    }

    /** A garden with harm done, and four texts, one of which asks for less than the others, all as without one. */
    private static ElevenBullocks garden(int cheap) {
        ElevenBullocks x = Edges.stretches(1);
        x.stray(20, 0);
        x.minute(10);
        for (int t = 0; t < 4; t++) {
            Edges.tell(x, t == cheap ? "pays 99;" : "pays 100;");
        }
        return x;
    }

    private static ElevenBullocks lastGarden() {
        ElevenBullocks x = Edges.stretches(0, 0, 0, 0, 0, 0, 0, 0, 0, 0, 0, 1);
        x.stray(10, 11);
        x.minute(1);
        Edges.tell(x, "pays 90+10*(place-10);");
        Edges.tell(x, "pays 90;");
        return x;
    }

    private static ElevenBullocks mended() {
        ElevenBullocks x = some();
        for (int w = 0; w < 4; w++) {
            x.mending(w, 10, w, 10, 1);
        }
        return x;
    }

    private static ElevenBullocks tries(int n) {
        ElevenBullocks x = new ElevenBullocks();
        for (int i = 0; i < n; i++) {
            x.tried(i % 4, i % 3 == 1);
        }
        return x;
    }

    private static void kept() {
        Edges.edge("THE IMAGE is as all is now: MINUTE.", () -> {
            Edges.due("of a new one", new ElevenBullocks().image(), 0);
            Edges.due("at 999", Edges.later(Edges.lanes(2), 999).image(), 999);
            ElevenBullocks x = some();
            Edges.due("image()", x.image(), 1);
            x.minute(1);
            Edges.due("the next stands for it", x.image(), 2);
            x.minute(1);
            Edges.due("back()", x.back(), 2);
        });
        Edges.edge("BACK to THE IMAGE (it stays): MINUTE.", () -> {
            ElevenBullocks x = some();
            Edges.due("back()", x.back(), 0);
            x.minute(5);
            Edges.due("once more", x.back(), 0);
            Edges.due("and once more", x.back(), 0);
            Edges.due("at 999", with(Edges.later(Edges.lanes(2), 999), ElevenBullocks::image).back(), 999);
            Edges.refused("back at once", () -> with(some(), ElevenBullocks::image), ElevenBullocks::back, 1);
        });
        Edges.edge("0 STRETCHES, 1 WAYS, 2 PEOPLE, 3 MINUTE, 4 beasts in all, 5 all that is DONE, 6 X, 7 TEXTS, 8 THE"
            + " TEXT (NONE), 9 STEPS that can be taken back, 10 SEEN, 11 TRIED, 12 bytes of the tape. -2 for others.",
            () -> {
            questions("about", EdgesOfCallsTest::some, (x, a) -> x.about(a[0]), -2, of(0), to(0, 12));
            int[] ofSome = {5, 5, 2, 1, 8, 8, 41, 2, 1, 4, 1, 1, 20};
            int[] ofNew = {0, 0, 0, 0, 0, 0, 41, 0, NONE, 0, 0, 0, 0};
            for (int what = 0; what <= 12; what++) {
                Edges.due("about(" + what + ")", some().about(what), ofSome[what]);
                Edges.due("about(" + what + ") of a new one", new ElevenBullocks().about(what), ofNew[what]);
            }
        });
    }

    public static void main(String[] args) {
        told();
        tape();
        done();
        byScripts();
        ofParts();
        asked();
        paid();
        kept();
        Edges.allPromises();
        Edges.end();
    }
}
