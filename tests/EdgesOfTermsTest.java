/** Part I of the document's terms by its own words: what there is, how many of it at most, and how minutes pass. */
public final class EdgesOfTermsTest {
    private static final int NONE = -1;

    private EdgesOfTermsTest() { }

    private static ElevenBullocks with(ElevenBullocks x, Edges.Call call) {
        call.on(x);
        return x;
    }

    private static ElevenBullocks ruledLanes(int n, String text) {
        return Edges.ruled(Edges.lanes(n), text);
    }

    private static void places() {
        Edges.edge("STRETCHES 0 .. 11 (told one by one)", () -> {
            ElevenBullocks x = new ElevenBullocks();
            for (int i = 0; i < 12; i++) {
                Edges.due("not there yet", x.ofStretch(i, 0), NONE);
                Edges.due("stretch " + i, x.stretch(i % 4, i), i);
            }
            Edges.due("stretch 12", x.stretch(0, 0), NONE);
            for (int i = 0; i < 12; i++) {
                Edges.due("kind of " + i, x.ofStretch(i, 0), i % 4);
                Edges.due("harm of " + i, x.ofStretch(i, 1), i);
            }
            Edges.due("ofStretch(12, 0)", x.ofStretch(12, 0), NONE);
            Edges.due("at the last", x.stray(1, 11), 0);
            Edges.due("beyond it", x.stray(1, 12), NONE);
        });
        Edges.edge("KIND 0 lane, 1 garden, 2 road, 3 home", () -> {
            ElevenBullocks x = Edges.stretches(0, 1, 2, 3);
            for (int kind = 0; kind < 4; kind++) {
                Edges.due("kind " + kind, x.ofStretch(kind, 0), kind);
            }
            Edges.refused("kind -1", () -> Edges.stretches(0), y -> y.stretch(-1, 0), NONE);
            Edges.refused("kind 4", () -> Edges.stretches(0), y -> y.stretch(4, 0), NONE);
        });
        Edges.edge("HARM 0 .. 99 (a beast, a MINUTE)", () -> {
            ElevenBullocks x = new ElevenBullocks();
            Edges.due("harm 0", x.stretch(0, 0), 0);
            Edges.due("harm 99", x.stretch(0, 99), 1);
            Edges.due("harm -1", x.stretch(0, -1), NONE);
            Edges.due("harm 100", x.stretch(0, 100), NONE);
            x.stray(1, 0);
            Edges.due("without harm", x.minute(60), 0);
            x.stray(23, 1);
            Edges.due("23 beasts, a minute", x.minute(1), 23 * 99);
            Edges.due("two minutes", x.minute(1), 2 * 23 * 99);
        });
        Edges.edge("WAYS 0 .. 15 (told one by one)", () -> {
            ElevenBullocks x = Edges.stretches(new int[12]);
            for (int i = 0; i < 16; i++) {
                Edges.due("not there yet", x.ofWay(i, 0), NONE);
                Edges.due("way " + i, x.way(i % 12, (i + 1) % 12, i % 2 == 1), i);
            }
            Edges.due("way 16", x.way(6, 8, false), NONE);
            Edges.due("ofWay(16, 0)", x.ofWay(16, 0), NONE);
            Edges.due("the last", x.ofWay(15, 1), 4);
            Edges.due("its gate", x.gate(14, false), true);
        });
        Edges.edge("between two unlike STRETCHES", () -> {
            Edges.refused("the same", () -> Edges.lanes(2), x -> x.way(1, 1, false), NONE);
            Edges.due("as another is already", Edges.lanes(2).way(0, 1, false), 1);
            Edges.due("the other way round", Edges.lanes(2).way(1, 0, true), 1);
        });
        Edges.edge("at most 4 of them (PATHS too) at one STRETCH", () -> {
            ElevenBullocks x = Edges.stretches(new int[6]);
            for (int i = 1; i <= 4; i++) {
                Edges.due("at 0: " + i, x.way(i % 2 == 0 ? i : 0, i % 2 == 0 ? 0 : i, i > 2), i - 1);
            }
            Edges.due("a fifth gate", x.way(0, 5, false), NONE);
            Edges.due("a fifth gate from 5", x.way(5, 0, false), NONE);
            Edges.due("a fifth path", x.way(0, 5, true), NONE);
            Edges.due("a fifth path from 5", x.way(5, 0, true), NONE);
            Edges.due("elsewhere", x.way(1, 5, false), 4);
            Edges.due("ways at 0", x.ofStretch(0, 3), 15);
            Edges.due("ways at 5", x.ofStretch(5, 3), 16);
        });
        Edges.edge("a GATE, OPEN or SHUT (told OPEN)", () -> {
            ElevenBullocks x = Edges.lanes(2);
            Edges.due("told OPEN", x.ofWay(0, 3), 1);
            x.gate(0, false);
            Edges.due("SHUT", x.ofWay(0, 3), 0);
            x.way(0, 1, false);
            Edges.due("the next is told OPEN", x.ofWay(1, 3), 1);
        });
        Edges.edge("or a PATH, for PEOPLE alone", () -> {
            ElevenBullocks x = Edges.ruled(Edges.stretches(0, 0), "takes 10;");
            x.way(0, 1, true);
            x.stray(1, 0);
            x.person(0, false, false, 0);
            x.send(0, 1);
            x.minute(1);
            Edges.due("a bunch stays", x.bunch(0, 1), 0);
            Edges.due("a person goes", x.ofPerson(0, 3), 1);
            Edges.due("a PATH is OPEN", x.ofWay(0, 3), 1);
        });
    }

    private static void others() {
        Edges.edge("BUNCHES 0 .. 3: SIZE 0 .. 24 (at first all 0: none)", () -> {
            ElevenBullocks x = Edges.lanes(2);
            for (int b = 0; b < 4; b++) {
                Edges.due("at first", x.bunch(b, 0), 0);
                Edges.due("nowhere", x.bunch(b, 1), NONE);
            }
            Edges.due("bunch(4, 0)", x.bunch(4, 0), -2);
            Edges.due("24", x.stray(24, 0), 0);
            Edges.due("SIZE 24", x.bunch(0, 0), 24);
            Edges.due("25", x.stray(1, 0), NONE);
        });
        Edges.edge("at a STRETCH, CAME from one (or NONE)", () -> {
            ElevenBullocks x = ruledLanes(2, "takes 10;");
            x.stray(1, 0);
            Edges.due("from none", x.bunch(0, 2), NONE);
            x.minute(1);
            Edges.due("from one", x.bunch(0, 2), 0);
            Edges.due("at one", x.bunch(0, 1), 1);
        });
        Edges.edge("PEOPLE 0 .. 5 (told one by one)", () -> {
            ElevenBullocks x = Edges.lanes(2);
            for (int i = 0; i < 6; i++) {
                Edges.due("not there yet", x.ofPerson(i, 0), -2);
                Edges.due("person " + i, x.person(i, false, false, 1), i);
            }
            Edges.due("person 6", x.person(0, false, false, 0), NONE);
            Edges.due("ofPerson(6, 0)", x.ofPerson(6, 0), -2);
            Edges.due("the last", x.ofPerson(5, 0), 5);
            Edges.due("all of them go", x.send(5, 0), true);
        });
        Edges.edge("NERVE 0 .. 9, WHEELS or not, a BUCKET or not", () -> {
            ElevenBullocks x = Edges.lanes(2);
            Edges.due("nerve -1", x.person(-1, false, false, 0), NONE);
            Edges.due("nerve 10", x.person(10, false, false, 0), NONE);
            for (int i = 0; i < 4; i++) {
                x.person(i * 3, i > 1, i % 2 == 1, 0);
                Edges.due("nerve", x.ofPerson(i, 0), i * 3);
                Edges.due("wheels", x.ofPerson(i, 1), i > 1 ? 1 : 0);
                Edges.due("bucket", x.ofPerson(i, 2), i % 2);
            }
        });
        Edges.edge("at a STRETCH, SENT to one (or NONE)", () -> {
            ElevenBullocks x = Edges.lanes(3);
            x.person(0, false, false, 2);
            Edges.due("at one", x.ofPerson(0, 3), 2);
            Edges.due("SENT nowhere", x.ofPerson(0, 4), NONE);
            x.send(0, 0);
            Edges.due("SENT to the lowest", x.ofPerson(0, 4), 0);
            x.send(0, 2);
            Edges.due("SENT to the highest", x.ofPerson(0, 4), 2);
        });
        Edges.edge("DONE: HARM so far, by STRETCHES", () -> {
            ElevenBullocks x = ruledLanes(2, "takes 10;");
            x.stray(3, 0);
            Edges.due("none so far", x.ofStretch(1, 2), 0);
            x.minute(3);
            Edges.due("at 1", x.ofStretch(1, 2), 6);
            Edges.due("at 0", x.ofStretch(0, 2), 3);
        });
        Edges.edge("MINUTE 0 .. 999 (at first 0)", () -> {
            ElevenBullocks x = Edges.lanes(2);
            Edges.due("at first", x.about(3), 0);
            Edges.later(x, 998);
            Edges.due("998", x.about(3), 998);
            Edges.due("the last", x.minute(1), 0);
            Edges.due("999", x.about(3), 999);
            Edges.due("no more", x.minute(1), NONE);
            x.undo();
            Edges.due("one taken back", x.minute(1), 0);
        });
        Edges.edge("X: at first 41", () -> Edges.due("X", new ElevenBullocks().about(6), 41));
    }

    private static ElevenBullocks walker(boolean wheels, int to) {
        ElevenBullocks x = Edges.lanes(6);
        x.person(0, wheels, false, 2);
        x.send(0, to);
        return with(x, y -> y.minute(1));
    }

    private static void peopleGo() {
        Edges.edge("PEOPLE by number, each that is SENT to another STRETCH than it is at", () -> {
            Edges.due("SENT nowhere", walker(false, NONE).ofPerson(0, 3), 2);
            Edges.due("SENT to where it is", walker(false, 2).ofPerson(0, 3), 2);
            Edges.due("on wheels, too", walker(true, 2).ofPerson(0, 3), 2);
            Edges.due("SENT elsewhere", walker(false, 5).ofPerson(0, 3), 3);
            Edges.due("SENT still, being there", walker(false, 3).ofPerson(0, 4), 3);
            Edges.due("stays there", with(walker(false, 3), x -> x.minute(60)).ofPerson(0, 3), 3);
        });
        Edges.edge("goes by one WAY (open, shut, PATHS: all) to the next STRETCH on a way of the fewest WAYS", () -> {
            ElevenBullocks x = Edges.lanes(4);
            x.gate(0, false);
            x.way(1, 3, true);
            x.person(0, false, false, 0);
            x.send(0, 3);
            x.minute(1);
            Edges.due("by a SHUT gate", x.ofPerson(0, 3), 1);
            x.minute(1);
            Edges.due("by a PATH", x.ofPerson(0, 3), 3);
            ElevenBullocks y = Edges.stretches(0, 0);
            y.person(0, true, false, 0);
            y.send(0, 1);
            y.minute(2);
            Edges.due("no way there", y.ofPerson(0, 3), 0);
            y.way(0, 1, true);
            y.minute(1);
            Edges.due("a way, since", y.ofPerson(0, 3), 1);
        });
        Edges.edge("PEOPLE by number", () -> {
            ElevenBullocks x = Edges.lanes(4);
            x.minute(1);
            for (int p = 0; p < 6; p++) {
                x.person(0, p % 2 == 1, false, 0);
                x.send(p, 3);
            }
            x.minute(1);
            for (int p = 0; p < 6; p++) {
                Edges.due("all six", x.ofPerson(p, 3), p % 2 == 1 ? 2 : 1);
            }
            for (int i = 0; i < 8; i++) {
                x.undo();
            }
            for (int p = 0; p < 6; p++) {
                Edges.due("all six as told", x.ofPerson(p, 3), 0);
                Edges.due("SENT nowhere", x.ofPerson(p, 4), NONE);
            }
        });
        Edges.edge("(of like ones the lowest next STRETCH)", () -> {
            ElevenBullocks x = Edges.stretches(0, 0, 0, 0, 0);
            for (int next : new int[] {3, 1, 2}) {
                x.way(0, next, false);
                x.way(next, 4, next == 1);
            }
            x.person(0, false, false, 0);
            x.person(0, false, false, 4);
            x.send(0, 4);
            x.send(1, 0);
            x.minute(1);
            Edges.due("by the lowest", x.ofPerson(0, 3), 1);
            Edges.due("and back by it", x.ofPerson(1, 3), 1);
            x.way(0, 4, true);
            x.send(0, 0);
            x.minute(1);
            x.send(0, 4);
            x.minute(1);
            Edges.due("fewer first, though it is higher", x.ofPerson(0, 3), 4);
        });
        Edges.edge("on WHEELS twice, if it isn't there yet", () -> {
            Edges.due("one away", walker(true, 3).ofPerson(0, 3), 3);
            Edges.due("two away", walker(true, 4).ofPerson(0, 3), 4);
            Edges.due("three away", walker(true, 5).ofPerson(0, 3), 4);
            Edges.due("on foot once", walker(false, 5).ofPerson(0, 3), 3);
        });
    }

    private static void beastsGo() {
        Edges.edge("Then BUNCHES by number (SIZE above 0), as all stand then", () -> {
            // the draws go to bunch 0 first: 41 draws 1, then 9936 draws 6
            ElevenBullocks x = ruledLanes(4, "takes if way=1 then 0 else 5 end;");
            x.stray(1, 3);
            x.stray(1, 0);
            x.minute(1);
            Edges.due("bunch 0 has the 1", x.bunch(0, 1), 2);
            Edges.due("bunch 1 has the 6", x.bunch(1, 1), 0);
            Edges.due("X", x.about(6), Edges.anew(Edges.anew(41)));
            ElevenBullocks y = Edges.lanes(2);
            y.minute(1);
            Edges.due("none of SIZE 0 draws", y.about(6), 41);
            ElevenBullocks z = ruledLanes(3, "takes if stood>0 then 0 else 10 end;");
            z.person(1, false, false, 2);
            z.send(0, 1);
            z.stray(1, 0);
            z.minute(1);
            Edges.due("people stand there then", z.bunch(0, 1), 0);
            ElevenBullocks u = Edges.lanes(2);
            u.stray(1, 0);
            u.minute(1);
            Edges.due("without a law: 1 is below 5", u.bunch(0, 1), 1);
            u.minute(1);
            Edges.due("6 is not", u.bunch(0, 1), 1);
            ElevenBullocks v = ruledLanes(3, "pace 2;takes if here=1 and back=0 and place+way=0 then 10 else 0 end;");
            v.person(9, false, false, 0);
            v.stray(1, 0);
            v.minute(1);
            Edges.due("as law and people say", v.bunch(0, 1), 1);
            v.by(Edges.tell(v, "pace 1;takes if back=1 then 10 else 0 end;"));
            v.minute(1);
            Edges.due("back", v.bunch(0, 1), 0);
            v.minute(1);
            Edges.due("and back again", v.bunch(0, 1), 1);
        });
        Edges.edge("pace (0 stands, 1 walks, 2 trots): so many MOVES, one behind the other", () -> {
            for (int pace = 0; pace < 3; pace++) {
                ElevenBullocks x = ruledLanes(4, "pace " + pace + ";takes 10-10*back;");
                x.stray(1, 0);
                x.minute(1);
                Edges.due("pace " + pace, x.bunch(0, 1), pace);
                Edges.due("came", x.bunch(0, 2), pace - 1);
            }
        });
        Edges.edge("Then, by BUNCHES, DONE at its STRETCH is more by SIZE times HARM", () -> {
            ElevenBullocks x = ruledLanes(3, "pace 2;takes 10-10*back;");
            x.stray(24, 0);
            Edges.due("where it is behind its MOVES", x.minute(1), 24);
            Edges.due("at 2", x.ofStretch(2, 2), 24);
            Edges.due("none between", x.ofStretch(1, 2), 0);
        });
        Edges.edge("Then BUNCHES at one STRETCH are one: the lowest has all (CAME as its own), the others 0", () -> {
            ElevenBullocks x = ruledLanes(3, "pace if size<3 then 1 else 0 end;takes 10;");
            x.stray(3, 2);
            x.stray(1, 0);
            x.stray(20, 1);
            Edges.due("not before a minute", x.bunch(2, 0), 20);
            x.minute(1);
            Edges.due("two at 1: the lower has all", x.bunch(1, 0), 21);
            Edges.due("CAME as its own", x.bunch(1, 2), 0);
            Edges.due("the other 0", x.bunch(2, 0), 0);
            Edges.due("nowhere", x.bunch(2, 1), NONE);
            Edges.due("another stays", x.bunch(0, 0), 3);
            Edges.due("beasts", x.about(4), 24);
            ElevenBullocks y = ruledLanes(2, "pace 0;");
            y.stray(6, 0);
            y.split(0, 1);
            y.split(0, 1);
            y.split(0, 1);
            y.minute(1);
            Edges.due("all four", y.bunch(0, 0), 6);
            Edges.due("no fourth", y.bunch(3, 0), 0);
            Edges.due("harm of each", y.about(5), 6);
        });
        Edges.edge("Then MINUTE is one more", () -> {
            ElevenBullocks x = Edges.lanes(2);
            x.minute(1);
            Edges.due("one", x.about(3), 1);
            x.minute(60);
            Edges.due("sixty more", x.about(3), 61);
        });
    }

    private static ElevenBullocks moved(String takes) {
        ElevenBullocks x = ruledLanes(3, "takes " + takes + ";");
        x.stray(1, 1);
        return with(x, y -> y.minute(1));
    }

    private static void moves() {
        Edges.edge("by number the OPEN WAYS at its STRETCH (not PATHS)", () -> {
            ElevenBullocks x = Edges.ruled(Edges.stretches(0, 0, 0, 0, 0), "takes 10;");
            x.way(4, 0, true);
            x.way(0, 3, false);
            x.way(2, 0, false);
            x.way(0, 1, false);
            x.stray(1, 0);
            x.gate(1, false);
            x.minute(1);
            Edges.due("neither a PATH nor a SHUT one", x.bunch(0, 1), 2);
            x.undo();
            x.gate(1, true);
            x.minute(1);
            Edges.due("the lowest number, not the lowest STRETCH", x.bunch(0, 1), 3);
        });
        Edges.edge("a draw by 10 (X mod 10, X being (X * 239 + 137) mod 30203 then) below takes", () -> {
            // 41 draws 1; then X is 9936, which draws 6; then 19007
            Edges.due("1 is not below 1", moved("if way=0 then 1 else 0 end").bunch(0, 1), 1);
            Edges.due("1 is below 2", moved("if way=0 then 2 else 0 end").bunch(0, 1), 0);
            Edges.due("X of one draw", moved("if way=0 then 2 else 0 end").about(6), 9936);
            Edges.due("6 is not below 6", moved("if way=0 then 1 else 6 end").bunch(0, 1), 1);
            Edges.due("6 is below 7", moved("if way=0 then 1 else 7 end").bunch(0, 1), 2);
            Edges.due("X of two draws", moved("if way=0 then 1 else 7 end").about(6), 19007);
            // the greatest seed makes X 30038, which is far beyond 30203 when it is made anew
            ElevenBullocks x = Edges.lanes(2);
            x.day(9999, 1);
            Edges.due("X wraps round", x.about(6), (30038 * 239 + 137) % 30203);
        });
        Edges.edge("(no draw, if takes is 0 or 10)", () -> {
            Edges.due("takes 0: X", moved("0").about(6), 41);
            Edges.due("takes 0: stays", moved("0").bunch(0, 1), 1);
            Edges.due("takes 10: X", moved("10").about(6), 41);
            Edges.due("takes 10: taken", moved("10").bunch(0, 1), 0);
            Edges.due("takes 1: X of two", moved("1").about(6), 19007);
            Edges.due("takes 9: X of one", moved("9").about(6), 9936);
            Edges.due("below 0: X", moved("-5").about(6), 41);
            Edges.due("above 10: X", moved("11").about(6), 41);
        });
        Edges.edge("the first that is taken: it CAME from where it was, and is on the other side; if none is, it stays",
            () -> {
            ElevenBullocks x = moved("10");
            Edges.due("CAME", x.bunch(0, 2), 1);
            Edges.due("other side", x.bunch(0, 1), 0);
            ElevenBullocks y = moved("0");
            Edges.due("stays", y.bunch(0, 1), 1);
            Edges.due("CAME as it had", y.bunch(0, 2), NONE);
            ElevenBullocks z = Edges.stretches(0);
            z.stray(1, 0);
            z.minute(1);
            Edges.due("without ways", z.bunch(0, 1), 0);
        });
    }

    private static ElevenBullocks bunches(int... sizes) {
        ElevenBullocks x = Edges.lanes(3);
        for (int size : sizes) {
            x.stray(size, 1);
        }
        return x;
    }

    private static void deeds() {
        Edges.edge("n beasts (1 .. 24) are a new BUNCH, the lowest of SIZE 0, at a STRETCH (24 in all at most)", () -> {
            Edges.refused("0 beasts", () -> bunches(3), x -> x.stray(0, 0), NONE);
            Edges.due("1 beast", bunches(3).stray(1, 0), 1);
            Edges.due("24 in all", bunches(3).stray(21, 0), 1);
            Edges.refused("25 in all", () -> bunches(3), x -> x.stray(22, 0), NONE);
            Edges.due("24 at once", bunches().stray(24, 0), 0);
            Edges.refused("25 at once", () -> bunches(), x -> x.stray(25, 0), NONE);
            ElevenBullocks x = bunches(1, 1, 1, 1);
            x.by(Edges.tell(x, "pace 0;"));
            x.minute(1);
            x.stray(1, 0);
            Edges.due("the lowest of SIZE 0", x.bunch(1, 1), 0);
            Edges.due("CAME from none", x.bunch(1, 2), NONE);
        });
        Edges.edge("SENT: to a STRETCH (another one; NONE: nowhere)", () -> {
            ElevenBullocks x = Edges.lanes(3);
            x.person(0, false, false, 1);
            Edges.due("nowhere is so", x.send(0, NONE), false);
            Edges.due("to 2", x.send(0, 2), true);
            Edges.due("to 2 is so", x.send(0, 2), false);
            Edges.due("to another one", x.send(0, 0), true);
            Edges.due("nowhere", x.send(0, NONE), true);
            Edges.due("steps", x.about(9), 3);
        });
        Edges.edge("SHUT, OPENED: a GATE (that isn't so; not a PATH)", () -> {
            ElevenBullocks x = Edges.lanes(2);
            x.way(0, 1, true);
            Edges.due("OPEN is so", x.gate(0, true), false);
            Edges.due("SHUT", x.gate(0, false), true);
            Edges.due("SHUT is so", x.gate(0, false), false);
            Edges.due("OPENED", x.gate(0, true), true);
            Edges.due("a PATH, SHUT", x.gate(1, false), false);
            Edges.due("a PATH, OPENED", x.gate(1, true), false);
            Edges.due("it is OPEN still", x.ofWay(1, 3), 1);
            Edges.due("steps", x.about(9), 2);
        });
        Edges.edge("n of a BUNCH (fewer than it has) are a new one, the lowest of SIZE 0, there, CAME likewise", () -> {
            Edges.due("all but one", bunches(5).split(0, 4), 1);
            Edges.refused("all", () -> bunches(5), x -> x.split(0, 5), NONE);
            Edges.due("one", bunches(5).split(0, 1), 1);
            Edges.refused("none", () -> bunches(5), x -> x.split(0, 0), NONE);
            Edges.refused("less than none", () -> bunches(5), x -> x.split(0, -1), NONE);
            ElevenBullocks x = Edges.ruled(bunches(1, 1, 9), "takes 10;pace if size<2 then 0 else 1 end;");
            x.minute(1);
            Edges.due("the lowest of SIZE 0", x.split(2, 4), 1);
            Edges.due("there", x.bunch(1, 1), 0);
            Edges.due("CAME likewise", x.bunch(1, 2), 1);
            Edges.due("the rest", x.bunch(2, 0), 5);
        });
    }

    private static ElevenBullocks ready() {
        ElevenBullocks x = Edges.lanes(3);
        x.person(1, false, false, 0);
        x.stray(5, 1);
        x.undo();
        return x;
    }

    private static void oneStep(String name, Edges.Call call, int steps) {
        ElevenBullocks x = with(ready(), y -> y.stray(5, 1));
        int before = x.about(9);
        call.on(x);
        Edges.due(name + ": steps", x.about(9) - before, steps);
    }

    private static void steps() {
        Edges.edge("STEPS: a MINUTE (each), STRAYED, SENT, SHUT, OPENED, SPLIT, A DAY (see V)", () -> {
            oneStep("a minute", x -> x.minute(1), 1);
            oneStep("each of three", x -> x.minute(3), 3);
            oneStep("strayed", x -> x.stray(1, 0), 1);
            oneStep("sent", x -> Edges.n(x.send(0, 1)), 1);
            oneStep("shut", x -> Edges.n(x.gate(0, false)), 1);
            oneStep("shut and opened", x -> Edges.n(x.gate(0, false)) + Edges.n(x.gate(0, true)), 2);
            oneStep("split", x -> x.split(0, 1), 1);
            oneStep("a day", x -> x.day(0, 30), 1);
            oneStep("a day in which nothing is", x -> x.day(0, 1), 1);
            oneStep("a script's", x -> x.played(Edges.tell(x, "stray 1 at 0;shut 0;minute 5;open 0;split 0 by 1;")), 9);
            oneStep("what is told", x -> x.stretch(0, 0) + x.way(0, 2, true) + x.person(0, true, true, 0)
                + Edges.tell(x, "") + Edges.n(x.by(0)) + x.seen(0, 0) + x.tried(0, true)
                + Edges.n(x.mending(0, 0, 0, 0, 1)) + x.image(), 0);
        });
        Edges.edge("the latest 30 can be taken back, the latest first", () -> {
            ElevenBullocks x = Edges.lanes(2);
            x.stray(1, 0);
            x.minute(29);
            Edges.due("30", x.about(9), 30);
            x.minute(1);
            Edges.due("30 at most", x.about(9), 30);
            for (int yet = 29; yet >= 0; yet--) {
                Edges.due("undo()", x.undo(), yet);
                Edges.due("the latest first", x.about(3), yet);
            }
            Edges.due("no 31st", x.undo(), NONE);
            Edges.due("what was ahead stays", x.about(4), 1);
            x.minute(2);
            Edges.due("anew", x.about(9), 2);
        });
        Edges.edge("BUNCHES, where PEOPLE are and are SENT, GATES, DONE, MINUTE, X are as ahead of it", () -> {
            ElevenBullocks x = Edges.ruled(ready(), "takes 5;");
            x.stray(6, 1);
            x.split(0, 2);
            x.send(0, 2);
            x.gate(0, false);
            int[] before = seen(x);
            x.day(4321, 30);
            x.undo();
            Edges.due("a day", java.util.Arrays.equals(seen(x), before), true);
            x.minute(9);
            for (int i = 0; i < 9; i++) {
                x.undo();
            }
            Edges.due("minutes", java.util.Arrays.equals(seen(x), before), true);
            x.undo();
            Edges.due("a GATE", x.ofWay(0, 3), 1);
            x.undo();
            Edges.due("SENT", x.ofPerson(0, 4), NONE);
            x.undo();
            Edges.due("a SPLIT", x.bunch(0, 0), 6);
            Edges.due("the other", x.bunch(1, 0), 0);
        });
        Edges.edge("PEOPLE told since are as they were told, WAYS told since OPEN", () -> {
            ElevenBullocks x = ready();
            x.minute(1);
            x.person(2, true, false, 1);
            x.way(0, 2, false);
            x.stretch(1, 3);
            x.send(1, 2);
            x.gate(2, false);
            x.minute(1);
            x.undo();
            Edges.due("told ahead of it: where it was", x.ofPerson(1, 3), 1);
            Edges.due("and SENT", x.ofPerson(1, 4), 2);
            Edges.due("and SHUT", x.ofWay(2, 3), 0);
            x.minute(1);
            for (int i = 0; i < 4; i++) {
                x.undo();
            }
            Edges.due("told since: there", x.ofPerson(1, 3), 1);
            Edges.due("SENT nowhere", x.ofPerson(1, 4), NONE);
            Edges.due("OPEN", x.ofWay(2, 3), 1);
            Edges.due("told still", x.about(0) + x.about(1) + x.about(2), 4 + 3 + 2);
            Edges.due("minute", x.about(3), 0);
        });
    }

    private static int[] seen(ElevenBullocks x) {
        int[] seen = new int[24];
        int next = 0;
        for (int what : new int[] {3, 4, 5, 6, 9}) {
            seen[next++] = x.about(what);
        }
        for (int b = 0; b < 3; b++) {
            for (int what = 0; what < 4; what++) {
                seen[next++] = x.bunch(b, what);
            }
        }
        seen[next++] = x.ofPerson(0, 3);
        seen[next++] = x.ofPerson(0, 4);
        seen[next++] = x.ofWay(0, 3);
        seen[next++] = x.ofWay(1, 3);
        for (int s = 0; s < 3 && next < seen.length; s++) {
            seen[next++] = x.ofStretch(s, 2);
        }
        return seen;
    }

    public static void main(String[] args) {
        places();
        others();
        peopleGo();
        beastsGo();
        moves();
        deeds();
        steps();
        Edges.end();
    }
}
