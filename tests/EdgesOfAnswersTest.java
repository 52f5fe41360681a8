/** Parts III to V of the document's terms by its own words: what is asked, who pays, a day by a seed, an image. */
public final class EdgesOfAnswersTest {
    private static final int NONE = -1;

    private EdgesOfAnswersTest() { }

    private static ElevenBullocks with(ElevenBullocks x, Edges.Call call) {
        call.on(x);
        return x;
    }

    private static ElevenBullocks strayed(ElevenBullocks x, int at) {
        return with(x, y -> y.stray(1, at));
    }

    private static void odds(String what, ElevenBullocks x, int n, int stretch, long upper, long lower) {
        Edges.due(what + ", upper", x.where(0, n, stretch, false), upper);
        Edges.due(what + ", lower", x.where(0, n, stretch, true), lower);
    }

    /** A row of three of these kinds, and a bunch at 1 that CAME from 0; then the text rules. */
    private static ElevenBullocks came(String text, int... kinds) {
        ElevenBullocks x = Edges.ruled(strayed(Edges.row(kinds), 0), "takes 10;");
        x.minute(1);
        return Edges.ruled(x, text);
    }

    /** A lane in the middle, 0, with a gate to each of 1 .. 4, which are of these kinds. */
    private static ElevenBullocks star(int... kinds) {
        ElevenBullocks x = Edges.stretches(0);
        for (int i = 0; i < kinds.length; i++) {
            x.stretch(kinds[i], 1);
            x.way(0, i + 1, false);
        }
        return strayed(x, 0);
    }

    private static void whereTo() {
        Edges.edge("All that follows changes nothing.", () -> {
            Edges.Call all = x -> x.where(0, 4, 2, true) + x.canCome(0) + x.stopped(0, 9) + x.soon(0, 2) + x.home(0)
                + x.whom(1, 4, NONE) + x.which() + x.many(3, 3, 3, true) + x.after(0, NONE) + x.pays(0, NONE)
                + x.cheapest() + x.saved(NONE) + x.turned(0, true) + x.best();
            ElevenBullocks y = with(star(1, 2, 3), x -> x.person(1, true, true, 1));
            Edges.asked("all of them", () -> with(star(1, 2, 3), x -> x.person(1, true, true, 1)), all, all.on(y));
        });
        Edges.edge("WHERE a BUNCH is behind n MOVES (0 to 4), nobody else moving: the ODDS that it is at a STRETCH; in"
            + " lowest terms.", () -> {
            ElevenBullocks x = strayed(Edges.lanes(3), 0);
            odds("0 moves, there", x, 0, 0, 1, 1);
            odds("0 moves, not there", x, 0, 2, 0, 1);
            odds("1 move", x, 1, 0, 1, 2);
            odds("2 moves", x, 2, 2, 1, 8);
            odds("too far for 1", x, 1, 2, 0, 1);
            // from 0 one half goes to 1; from 1 one half to 0, a quarter to 2; from 2 one half to 1
            odds("4 moves", x, 4, 2, 23, 128);
            Edges.due("5 moves", x.where(0, 5, 0, true), NONE);
            Edges.due("-1 moves", x.where(0, -1, 0, true), NONE);
            x.person(1, false, false, 2);
            x.send(0, 1);
            odds("nobody else moving", x, 1, 1, 1, 2);
            Edges.ruled(x, "takes 10;");
            odds("for certain", x, 3, 1, 1, 1);
            odds("for certain not", x, 3, 0, 0, 1);
        });
        Edges.edge("WHERE a BUNCH is behind n MOVES", () -> {
            ElevenBullocks x = strayed(Edges.ruled(Edges.lanes(3), "takes if back=1 then 1 else 8 end;"), 2);
            odds("on, with 8", x, 1, 1, 4, 5);
            odds("on twice", x, 2, 0, 16, 25);
            // stays twice, 1/5 * 1/5, or is back: 4/5 * 2/10 * 1/10
            odds("there still, or again", x, 2, 2, 7, 125);
            ElevenBullocks y = came("takes if back=1 then 1 else 8 end;", 0, 0, 0);
            odds("from where it CAME: back with 1", y, 1, 0, 1, 10);
            odds("on with 8, if not back", y, 1, 2, 18, 25);
            ElevenBullocks z = Edges.ruled(Edges.lanes(3), "takes place*size;");
            z.stray(5, 1);
            z.stray(2, 1);
            odds("of the first, by its SIZE", z, 2, 0, 5, 8);
            odds("which stays with a half of a half, or is back from 2", z, 2, 1, 5, 16);
            Edges.due("of the second, by its own", z.where(1, 1, 0, true), 5);
            Edges.due("upper", z.where(1, 1, 0, false), 1);
            odds("of the first again", z, 2, 0, 5, 8);
            ElevenBullocks ring = Edges.ruled(Edges.lanes(3),
                "takes if back=1 or place=1 and way=0 then 0 else 10 end;");
            ring.way(2, 0, false);
            strayed(ring, 1);
            odds("round, and by a WAY from its one side alone", ring, 3, 1, 1, 1);
            odds("and on", ring, 4, 2, 1, 1);
            ElevenBullocks u = strayed(Edges.ruled(Edges.lanes(2), "takes 1;"), 0);
            odds("1 of 10", u, 1, 1, 1, 10);
            odds("9 of 10", u, 1, 0, 9, 10);
            odds("the last: 1 - (1 + .8 ^ 4) / 2", u, 4, 1, 369, 1250);
        });
        Edges.edge("STRETCHES (bits) a BUNCH can come to by MOVES (where it is, too)", () -> {
            Edges.due("without ways", strayed(Edges.stretches(0, 0), 1).canCome(0), 2);
            Edges.due("all twelve", strayed(Edges.lanes(12), 5).canCome(0), 4095);
            Edges.due("a SHUT gate", with(strayed(Edges.lanes(12), 5), x -> Edges.n(x.gate(5, false))).canCome(0), 63);
            Edges.due("no PATHS", with(strayed(Edges.stretches(0, 0), 0), x -> x.way(0, 1, true)).canCome(0), 1);
        });
        Edges.edge("by WAYS of takes above 0 (and behind none of takes 10), as PEOPLE stand now", () -> {
            ElevenBullocks x = star(0, 0, 0);
            String[] laws = {"0", "1", "if way=1 then 10 else 1 end", "if way=1 then 9 else 1 end",
                "if way=1 then 0 else 1 end", "10"};
            int[] want = {1, 15, 7, 15, 11, 3};
            x.image();
            for (int i = 0; i < laws.length; i++) {
                Edges.ruled(x, "takes " + laws[i] + ";");
                Edges.due("takes " + laws[i], x.canCome(0), want[i]);
                x.back();
            }
            x.person(1, false, false, 2);
            Edges.due("somebody stands there now", x.canCome(0), 11);
            x.send(0, 0);
            Edges.due("SENT elsewhere, but there now", x.canCome(0), 11);
            Edges.due("not back, but on", came("takes if back=1 then 0 else 5 end;", 0, 0, 0).canCome(0), 6);
            Edges.due("back and no further", came("takes 5*back;", 0, 0, 0).canCome(0), 3);
            Edges.due("it CAME from none", strayed(Edges.ruled(Edges.lanes(3), "takes 5*back;"), 1).canCome(0), 2);
            ElevenBullocks y = star(2, 1, 3);
            Edges.due("all", y.canCome(0), 15);
            Edges.due("stopped by one at the road", y.stopped(0, 9), 2);
            Edges.due("nobody is there, though", y.canCome(0), 15);
            Edges.due("two to shut", y.home(0), 3);
            Edges.due("they are open, though", y.canCome(0), 15);
            y.stray(9, 0);
            Edges.ruled(y, "takes if size<9 then 0 else 5 end;");
            Edges.due("too few", y.canCome(0), 1);
            Edges.due("by its own SIZE", y.canCome(1), 15);
            Edges.due("too few, as before", y.canCome(0), 1);
        });
    }

    private static void whoStops() {
        Edges.edge("STRETCHES (3 at most, not where it is)", () -> {
            Edges.due("none", star(0, 0, 0, 0).stopped(0, 1), 0);
            Edges.due("one", star(2, 0, 0, 0).stopped(0, 1), 2);
            Edges.due("two", star(2, 0, 0, 2).stopped(0, 1), 18);
            Edges.due("three", star(2, 0, 2, 2).stopped(0, 1), 26);
            Edges.due("four", star(2, 2, 2, 2).stopped(0, 1), NONE);
            ElevenBullocks x = Edges.ruled(star(2, 2, 2, 2), "takes if here>0 then 0 else 5 end;");
            Edges.due("not where it is", x.stopped(0, 1), NONE);
            x.person(0, false, false, 0);
            Edges.due("somebody is there", x.stopped(0, 1), 0);
        });
        Edges.edge("at which somebody of a told NERVE (0 .. 9) more would have to stand, such that it can come to no road",
            () -> {
            ElevenBullocks x = star(2);
            Edges.due("NERVE 0 does not stop it", x.stopped(0, 0), NONE);
            Edges.due("NERVE 1", x.stopped(0, 1), 2);
            Edges.due("NERVE 9", x.stopped(0, 9), 2);
            Edges.due("NERVE 10", x.stopped(0, 10), NONE);
            Edges.due("NERVE -1", x.stopped(0, -1), NONE);
            Edges.ruled(x, "takes if stood<12 then 1 else 0 end;");
            x.person(3, false, false, 1);
            Edges.due("9 more than 3", x.stopped(0, 9), 2);
            Edges.due("8 more than 3", x.stopped(0, 8), NONE);
            Edges.due("on a road", strayed(Edges.row(2, 0), 0).stopped(0, 9), NONE);
            Edges.due("a road behind it, and it does not go back",
                came("takes if back=1 or stood>0 then 0 else 5 end;", 2, 0, 0).stopped(0, 1), 0);
            Edges.due("it goes back alone: somebody on the road",
                came("takes if stood>0 then 0 else 5*back end;", 2, 0, 2).stopped(0, 1), 1);
            ElevenBullocks y = strayed(Edges.ruled(Edges.row(0, 0, 2), "takes if here=1 then 0 else 5 end;"), 0);
            Edges.due("somebody more is here, too", y.stopped(0, 0), 2);
            Edges.due("but not for what is asked then", y.canCome(0), 7);
            // It must go on to 2 and back to come by the road: back it goes, unless somebody is at 1 and at 2.
            ElevenBullocks z = Edges.stretches(0, 0, 0, 2);
            z.way(1, 2, false);
            z.way(0, 1, false);
            z.way(1, 3, false);
            Edges.ruled(strayed(z, 0), "takes if way=0 then if back=0 then 10 else if place=1 or here*stood>0 then 0"
                + " else 10 end end else 5 end;");
            Edges.due("on both sides of one WAY", z.stopped(0, 1), 6);
            Edges.due("on both sides, without NERVE", z.stopped(0, 0), NONE);
        });
        Edges.edge("such that it can come to no road: the fewest; of like ones the lowest set (bits); none.", () -> {
            ElevenBullocks x = strayed(Edges.row(0, 0, 0, 2), 0);
            Edges.due("one of three", x.stopped(0, 1), 2);
            ElevenBullocks y = strayed(Edges.row(2, 0, 0, 0), 3);
            Edges.due("the lowest, the road itself", y.stopped(0, 1), 1);
            // two roads behind one lane: one in the lane is fewer than one on each
            ElevenBullocks z = Edges.stretches(2, 2, 0, 0);
            z.way(2, 0, false);
            z.way(2, 1, false);
            z.way(2, 3, false);
            z.stray(1, 3);
            Edges.due("the fewest, though not the lowest", z.stopped(0, 1), 4);
            Edges.due("the highest STRETCH", strayed(Edges.row(0, 0, 0, 0, 0, 0, 0, 0, 0, 0, 0, 2), 10).stopped(0, 1),
                1 << 11);
        });
    }

    private static ElevenBullocks person(ElevenBullocks x, boolean wheels, int at) {
        return with(x, y -> y.person(0, wheels, false, at));
    }

    private static void whoGoes() {
        Edges.edge("HOW SOON a PERSON is at a STRETCH: MINUTES (its WHEELS); none.", () -> {
            ElevenBullocks x = person(person(Edges.lanes(12), false, 0), true, 0);
            for (int s = 0; s < 12; s++) {
                Edges.due("on foot to " + s, x.soon(0, s), s);
                Edges.due("on WHEELS to " + s, x.soon(1, s), (s + 1) / 2);
            }
            x.gate(0, false);
            Edges.due("by a SHUT gate", x.soon(0, 1), 1);
            x.way(0, 11, true);
            Edges.due("by a PATH", x.soon(0, 11), 1);
            Edges.due("none", person(Edges.stretches(0, 0), false, 0).soon(0, 1), NONE);
            Edges.due("there", person(Edges.stretches(0, 0), false, 1).soon(0, 1), 0);
            ElevenBullocks y = person(Edges.lanes(4), true, 0);
            y.send(0, 3);
            int soon = y.soon(0, 3);
            y.minute(soon - 1);
            Edges.due("not yet", y.ofPerson(0, 3) == 3, false);
            y.minute(1);
            Edges.due("so soon", y.ofPerson(0, 3), 3);
        });
        Edges.edge("to each of a set of STRETCHES one PERSON of a set (as many or more), each PERSON to one at most", () -> {
            ElevenBullocks x = Edges.lanes(12);
            for (int p = 0; p < 6; p++) {
                person(x, false, p);
            }
            Edges.due("six to six", x.whom(63, 63, NONE), 0);
            for (int s = 0; s < 6; s++) {
                Edges.due("who to " + s, x.whom(63, 63, s), s);
            }
            Edges.due("six to seven", x.whom(63, 127, NONE), NONE);
            Edges.due("six to twelve", x.whom(63, 4095, NONE), NONE);
            Edges.due("five to six", x.whom(31, 63, NONE), NONE);
            Edges.due("five to five", x.whom(31, 31, NONE), 0);
            Edges.due("more than needed", x.whom(63, 1 << 11, NONE), 6);
            Edges.due("the last of them", x.whom(63, 1 << 11, 11), 5);
            Edges.due("one alone", x.whom(1, 1 << 11, NONE), 11);
            Edges.due("each to one: 0 and 1 to 10 and 11", x.whom(3, 3 << 10, NONE), 10);
            Edges.due("no set of STRETCHES", x.whom(63, 0, NONE), NONE);
            Edges.due("no set of PEOPLE", x.whom(0, 1, NONE), NONE);
            Edges.due("a PERSON beyond", x.whom(64, 1, NONE), NONE);
            Edges.due("a STRETCH beyond", x.whom(63, 4096, NONE), NONE);
        });
        Edges.edge("such that the last is there soonest; of like ones the lowest PERSON for the lowest STRETCH, then the"
            + " next, ..: MINUTES, the PERSON for a STRETCH; none.", () -> {
            ElevenBullocks x = person(person(person(Edges.lanes(7), false, 3), false, 3), true, 0);
            Edges.due("the last: on WHEELS to 6", x.whom(7, 1 | 1 << 6, NONE), 3);
            Edges.due("the lowest for 0", x.whom(7, 1 | 1 << 6, 0), 0);
            Edges.due("the next for 6", x.whom(7, 1 | 1 << 6, 6), 1);
            Edges.due("soonest first: 2 is on WHEELS", x.whom(7, 1 << 2, 2), 0);
            Edges.due("as soon as the nearest", x.whom(7, 1 << 1, NONE), 1);
            Edges.due("whom", x.whom(7, 1 << 1, 1), 2);
            Edges.due("without the lowest", x.whom(6, 1 | 1 << 6, 0), 1);
            ElevenBullocks y = person(person(Edges.stretches(0, 0), false, 0), false, 0);
            Edges.due("one can't be come to", y.whom(3, 3, NONE), NONE);
            Edges.due("nor who for the other", y.whom(3, 3, 0), NONE);
            Edges.due("the other alone", y.whom(3, 1, 0), 0);
        });
    }

    private static void goesHome() {
        Edges.edge("HOME: OPEN GATES (3 at most) to SHUT such that a BUNCH can come to a home and to no garden and no road",
            () -> {
            Edges.due("none to SHUT", star(3, 0, 0, 0).home(0), 0);
            Edges.due("one", star(3, 1, 0, 0).home(0), 2);
            Edges.due("two", star(3, 1, 0, 2).home(0), 10);
            Edges.due("three", star(3, 1, 2, 1).home(0), 14);
            ElevenBullocks x = star(0, 1, 2, 1);
            x.stretch(3, 0);
            x.stretch(1, 0);
            x.way(1, 5, false);
            Edges.due("three, home behind a lane", x.home(0), 14);
            x.way(5, 6, false);
            Edges.due("four", x.home(0), NONE);
            x.gate(3, false);
            Edges.due("one of the four is SHUT", x.home(0), 2 | 4 | 32);
            Edges.due("no home", star(0, 1, 0, 0).home(0), NONE);
            Edges.due("in a garden", strayed(Edges.row(3, 1), 1).home(0), NONE);
            Edges.due("on a road", strayed(Edges.row(3, 2), 1).home(0), NONE);
            Edges.due("at home", strayed(Edges.row(3, 1), 0).home(0), 1);
            Edges.due("at home, shut off", strayed(Edges.stretches(3, 1), 0).home(0), 0);
            Edges.due("home behind it, and it does not go back",
                came("takes if back=1 then 0 else 5 end;", 3, 0, 1).home(0), NONE);
            Edges.due("it goes back alone", came("takes 5*back;", 3, 0, 1).home(0), 0);
        });
        Edges.edge("no garden and no road: the fewest; of like ones the lowest set (bits); none.", () -> {
            // to the garden by two gates one behind the other: the lower will do
            ElevenBullocks x = strayed(Edges.row(3, 0, 0, 0, 1), 1);
            Edges.due("of like ones the lowest", x.home(0), 2);
            x.way(1, 2, false);
            Edges.due("the fewest: behind both", x.home(0), 4);
            x.way(2, 3, false);
            Edges.due("the last gate", x.home(0), 8);
            x.way(3, 4, false);
            Edges.due("two of six: the lowest set", x.home(0), 2 | 16);
            x.person(1, false, false, 4);
            Edges.due("somebody stands there: none to SHUT", x.home(0), 0);
        });
    }

    private static void seenAt() {
        Edges.edge("SEEN (6 at most; told): beasts at a STRETCH in a MINUTE t (0 .. 60).", () -> {
            ElevenBullocks x = Edges.row(3, 0);
            Edges.due("t -1", x.seen(1, -1), -2);
            Edges.due("t 61", x.seen(1, 61), -2);
            Edges.due("t 0", x.seen(1, 0), 1);
            Edges.due("t 60", x.seen(0, 60), 2);
            for (int i = 3; i <= 6; i++) {
                Edges.due("the next", x.seen(1, i), i);
            }
            Edges.due("a seventh", x.seen(1, 1), -2);
            Edges.due("how many", x.about(10), 6);
            Edges.due("none any more", x.seen(NONE, 0), 0);
            Edges.due("how many", x.about(10), 0);
        });
        Edges.edge("WAYS (bits, not PATHS) at a home by which they could have got out at 0, being at its other side"
            + " (unless that is home, too)", () -> {
            ElevenBullocks x = Edges.row(0, 3, 3, 1, 0);
            x.way(1, 4, true);
            Edges.due("nothing was SEEN", x.which(), 1 | 4);
            x.seen(0, 0);
            Edges.due("at its other side at 0", x.which(), 1);
            x.seen(NONE, 0);
            x.seen(1, 0);
            Edges.due("not at home at 0", x.which(), 0);
            x.seen(NONE, 0);
            x.seen(1, 1);
            Edges.due("at home again at 1", x.which(), 1);
            x.gate(0, false);
            Edges.due("SHUT since", x.which(), 1);
            Edges.due("no home", Edges.lanes(3).which(), 0);
        });
        Edges.edge("from there at most one WAY (no PATHS; SHUT ones as well) each MINUTE, to all that were SEEN, each by"
            + " itself", () -> {
            ElevenBullocks x = Edges.row(3, 0, 0, 0, 0);
            x.way(1, 4, true);
            x.gate(1, false);
            x.seen(4, 3);
            Edges.due("three WAYS in 3", x.which(), 1);
            x.seen(4, 60);
            Edges.due("fewer than MINUTES", x.which(), 1);
            x.seen(1, 3);
            Edges.due("each by itself: at 1 in 3, too", x.which(), 1);
            x.seen(4, 2);
            Edges.due("three WAYS in 2", x.which(), 0);
            x.seen(NONE, 0);
            x.stretch(0, 0);
            x.way(4, 5, true);
            x.seen(5, 60);
            Edges.due("by a PATH alone", x.which(), 0);
        });
    }

    private static void odds(int m, int c, int k, long upper, long lower) {
        ElevenBullocks x = new ElevenBullocks();
        Edges.due("many(" + m + ", " + c + ", " + k + "), upper", x.many(m, c, k, false), upper);
        Edges.due("many(" + m + ", " + c + ", " + k + "), lower", x.many(m, c, k, true), lower);
    }

    private static void howMany() {
        Edges.edge("n beasts (0 .. 12, each alike) of whom each is overlooked with m out of 10 (0 .. 9): c were counted"
            + " (0 .. 12): the ODDS that there are k; in lowest terms.", () -> {
            for (int c = 0; c <= 12; c++) {
                for (int k = 0; k <= 12; k++) {
                    odds(0, c, k, c == k ? 1 : 0, 1);
                }
            }
            odds(9, 12, 12, 1, 1);
            odds(9, 12, 11, 0, 1);
            // 11 counted, or 12 with one overlooked: 1 to 12 * 9 / 10
            odds(9, 11, 11, 5, 59);
            odds(9, 11, 12, 54, 59);
            odds(1, 11, 11, 5, 11);
            odds(5, 0, 0, 4096, 8191);
            odds(5, 0, 12, 1, 8191);
            // the greatest numbers: none was counted, each is overlooked with 9 of 10
            long all = 0;
            long nines = 1;
            for (int n = 0; n <= 12; n++) {
                long tens = 1;
                for (int i = n; i < 12; i++) {
                    tens *= 10;
                }
                all += nines * tens;
                nines *= 9;
            }
            odds(9, 0, 0, 1000000000000L, all);
        });
    }

    private static void afterWhich() {
        Edges.edge("a PERSON goes after all BUNCHES one behind the other (where they stand; each stands and does HARM till"
            + " the PERSON is there): the order with the least HARM", () -> {
            ElevenBullocks x = person(strayed(Edges.lanes(4), 3), false, 0);
            Edges.due("three minutes of one", x.after(0, NONE), 3);
            x.stray(9, 0);
            Edges.due("where it is, at once", x.after(0, NONE), 3);
            Edges.due("that first", x.after(0, 0), 1);
            x.stray(2, 1);
            x.stray(12, 3);
            Edges.due("four", x.after(0, NONE), 3 + 2 + 12 * 3);
            for (int i = 0; i < 4; i++) {
                Edges.due("the order: " + i, x.after(0, i), new int[] {1, 2, 0, 3}[i]);
            }
            Edges.due("no fifth", x.after(0, 4), NONE);
            ElevenBullocks y = person(strayed(Edges.lanes(4), 3), true, 0);
            Edges.due("on WHEELS", y.after(0, NONE), 2);
            person(y, false, 0);
            Edges.due("on foot", y.after(1, NONE), 3);
            Edges.due("on WHEELS again", y.after(0, NONE), 2);
        });
        Edges.edge("of like ones the lowest first BUNCH, then the second, ..: that HARM, the i-th BUNCH", () -> {
            ElevenBullocks x = person(strayed(strayed(Edges.lanes(5), 4), 0), false, 2);
            Edges.due("either first", x.after(0, NONE), 2 + 6);
            Edges.due("the lowest", x.after(0, 0), 0);
            Edges.due("then", x.after(0, 1), 1);
            ElevenBullocks y = person(strayed(strayed(strayed(Edges.stretches(0), 0), 0), 0), false, 0);
            Edges.due("no HARM", y.after(0, NONE), 0);
            for (int i = 0; i < 3; i++) {
                Edges.due("by number: " + i, y.after(0, i), i);
            }
        });
        Edges.edge("none, if one can't be come to (or there is none).", () -> {
            ElevenBullocks x = person(Edges.stretches(0, 0), false, 0);
            Edges.due("there is none", x.after(0, NONE), NONE);
            Edges.due("no first", x.after(0, 0), NONE);
            strayed(strayed(x, 0), 1);
            Edges.due("one can't be come to", x.after(0, NONE), NONE);
            Edges.due("nor is there a first", x.after(0, 0), NONE);
            x.way(0, 1, true);
            Edges.due("by a PATH", x.after(0, NONE), 1);
        });
    }

    /** A garden where so much is DONE, 99 at most. */
    private static ElevenBullocks done(int done) {
        ElevenBullocks x = new ElevenBullocks();
        x.stretch(1, done);
        x.stray(1, 0);
        return with(x, y -> y.minute(1));
    }

    private static void payments() {
        Edges.edge("so much of a hundred of it, cut, by pays of a TEXT", () -> {
            int[][] cases = {{99, 50, 49}, {1, 99, 0}, {1, 100, 1}, {0, 100, 0}, {99, 0, 0}, {99, 1, 0}, {99, 2, 1},
                {99, 100, 99}};
            for (int[] one : cases) {
                ElevenBullocks x = done(one[0]);
                Edges.due(one[1] + " of " + one[0], x.pays(0, Edges.tell(x, "pays " + one[1] + ";")), one[2]);
            }
            ElevenBullocks x = new ElevenBullocks();
            x.stretch(1, 99);
            x.stray(24, 0);
            Edges.later(x, 999);
            Edges.due("of the most", x.pays(0, NONE), 24 * 99 * 999);
            Edges.due("99 of it", x.pays(0, Edges.tell(x, "pays 99;")), 24 * 99 * 999 / 100 * 99 + 24 * 99 / 100);
        });
        Edges.edge("(as if a BUNCH of SIZE 0 were there; PEOPLE as they are), or without one", () -> {
            ElevenBullocks x = done(50);
            Edges.due("SIZE 0", x.pays(0, Edges.tell(x, "pays size*9+2;")), 1);
            int here = Edges.tell(x, "pays here*40;");
            Edges.due("nobody", x.pays(0, here), 0);
            x.person(0, false, false, 0);
            Edges.due("somebody", x.pays(0, here), 20);
            Edges.due("without one", x.pays(0, NONE), 50);
        });
        Edges.edge("the TEXT (or NONE, ahead of all) by which all that is DONE at gardens costs least together", () -> {
            ElevenBullocks x = done(50);
            Edges.due("without texts", x.cheapest(), NONE);
            Edges.tell(x, "pays 100;");
            Edges.due("like ones: NONE ahead of all", x.cheapest(), NONE);
            Edges.tell(x, "pays 99;");
            Edges.due("less", x.cheapest(), 1);
            Edges.tell(x, "pays 98;");
            Edges.due("like ones, cut: 49 of 50 both", x.cheapest(), 1);
            Edges.tell(x, "pays 97;");
            Edges.due("48", x.cheapest(), 3);
            ElevenBullocks y = new ElevenBullocks();
            y.stretch(2, 50);
            y.stretch(0, 50);
            y.stretch(3, 50);
            y.stretch(1, 0);
            y.stray(1, 0);
            y.stray(1, 1);
            y.stray(1, 2);
            y.minute(1);
            Edges.tell(y, "pays 0;");
            Edges.due("gardens alone", y.cheapest(), NONE);
        });
    }

    private static void mendings() {
        Edges.edge("left OPEN at night with o out of 10 (0 .. 10), p pence to mend (0 .. 999), HARM h pence if left (0 .. 999),"
            + " n NIGHTS (1 .. 99): told for a GATE (not a PATH)", () -> {
            int[][] taken = {{0, 1, 1, 1}, {10, 1, 1, 1}, {1, 0, 1, 1}, {1, 999, 1, 1}, {1, 1, 0, 1}, {1, 1, 999, 1},
                {1, 1, 1, 1}, {1, 1, 1, 99}};
            int[][] not = {{-1, 1, 1, 1}, {11, 1, 1, 1}, {1, -1, 1, 1}, {1, 1000, 1, 1}, {1, 1, -1, 1}, {1, 1, 1000, 1},
                {1, 1, 1, 0}, {1, 1, 1, 100}};
            for (int[] a : taken) {
                Edges.due("taken", Edges.lanes(2).mending(0, a[0], a[1], a[2], a[3]), true);
            }
            for (int[] a : not) {
                ElevenBullocks x = with(Edges.lanes(2), y -> Edges.n(y.mending(0, 5, 5, 10, 10)));
                Edges.due("not taken", x.mending(0, a[0], a[1], a[2], a[3]), false);
                Edges.due("as it was told", x.saved(0), 45);
            }
            Edges.due("a PATH", with(Edges.stretches(0, 0), x -> x.way(0, 1, true)).mending(0, 1, 1, 1, 1), false);
            Edges.due("a SHUT one", with(Edges.lanes(2), x -> Edges.n(x.gate(0, false))).mending(0, 1, 1, 1, 1), true);
        });
        Edges.edge("SAVED: h * o * n / 10, cut, less p.", () -> {
            int[][] cases = {{0, 0, 999, 99, 0}, {10, 0, 999, 99, 98901}, {10, 999, 999, 99, 97902}, {0, 999, 0, 1, -999},
                {1, 0, 9, 1, 0}, {1, 0, 10, 1, 1}, {1, 5, 19, 1, -4}, {3, 1, 333, 7, 698}};
            for (int[] a : cases) {
                ElevenBullocks x = Edges.lanes(2);
                x.mending(0, a[0], a[1], a[2], a[3]);
                Edges.due("saved", x.saved(0), a[4]);
            }
        });
        Edges.edge("BEST GATE: by which most is SAVED; of like ones the lowest; none, if nothing is (or none was told).",
            () -> {
            ElevenBullocks x = Edges.lanes(12);
            Edges.due("none was told", x.saved(NONE), NONE);
            x.mending(3, 0, 0, 0, 1);
            Edges.due("nothing is: 0", x.saved(NONE), NONE);
            x.mending(2, 0, 1, 0, 1);
            Edges.due("less than nothing", x.saved(NONE), NONE);
            x.mending(10, 10, 0, 1, 1);
            Edges.due("1", x.saved(NONE), 10);
            x.mending(9, 10, 1, 2, 1);
            Edges.due("of like ones the lowest", x.saved(NONE), 9);
            x.mending(10, 10, 0, 2, 1);
            Edges.due("most", x.saved(NONE), 10);
            x.mending(0, 10, 0, 2, 1);
            Edges.due("the lowest of all", x.saved(NONE), 0);
        });
    }

    private static ElevenBullocks tried(int... hows) {
        ElevenBullocks x = new ElevenBullocks();
        for (int how : hows) {
            x.tried(how % 10, how >= 10);
        }
        return x;
    }

    private static void tries() {
        Edges.edge("TRIED (12 at most; told): how (0 behind, 1 beside, 2 bucket, 3 dog) and whether they turned.", () -> {
            ElevenBullocks x = tried(0, 11, 2, 13, 0, 11, 2, 13, 0, 11, 2);
            Edges.due("how 4", x.tried(4, true), -2);
            Edges.due("the twelfth", x.tried(3, true), 12);
            Edges.due("a thirteenth", x.tried(3, true), -2);
            Edges.due("behind", x.turned(0, false), 0);
            Edges.due("dog", x.turned(3, false), 1);
            ElevenBullocks y = tried(13, 13, 13, 13, 13, 13, 13, 13, 13, 13, 3, 3);
            Edges.due("twelve of one: upper", y.turned(3, false), 5);
            Edges.due("lower", y.turned(3, true), 6);
        });
        Edges.edge("TURNED by a how: the ODDS (turned of TRIED), in lowest terms.", () -> {
            Edges.due("none of 3: upper", tried(0, 0, 0).turned(0, false), 0);
            Edges.due("none of 3: lower", tried(0, 0, 0).turned(0, true), 1);
            Edges.due("3 of 3: upper", tried(10, 10, 10).turned(0, false), 1);
            Edges.due("3 of 3: lower", tried(10, 10, 10).turned(0, true), 1);
            Edges.due("2 of 4: upper", tried(10, 0, 0, 10).turned(0, false), 1);
            Edges.due("2 of 4: lower", tried(10, 0, 0, 10).turned(0, true), 2);
        });
        Edges.edge("BEST how: the greatest ODDS; of like ones the one TRIED more often, then the lowest; none.", () -> {
            Edges.due("none", tried().best(), NONE);
            Edges.due("one that never turned them", tried(2).best(), 2);
            Edges.due("never, but more often", tried(1, 2, 2).best(), 2);
            Edges.due("like ones: the lowest", tried(3, 2, 1).best(), 1);
            Edges.due("once turned is more", tried(0, 0, 13, 3, 3).best(), 3);
            Edges.due("1 of 1 and 2 of 2", tried(11, 12, 12).best(), 2);
            Edges.due("1 of 2 and 2 of 4", tried(10, 0, 13, 3, 13, 3).best(), 3);
            Edges.due("2 of 3 and 1 of 1", tried(10, 10, 0, 13).best(), 3);
        });
    }

    private static void days() {
        Edges.edge("A DAY by a SEED: X is SEED (0 .. 9999) * 3 + 41; n times (1 .. 30)", () -> {
            for (int seed : new int[] {0, 1, 9999}) {
                ElevenBullocks x = Edges.lanes(2);
                x.day(seed, 1);
                Edges.due("X of seed " + seed, x.about(6), Edges.anew(seed * 3 + 41));
            }
            int due = 41;
            for (int i = 0; i < 30; i++) {
                due = Edges.anew(due);
            }
            ElevenBullocks x = Edges.lanes(2);
            x.day(0, 30);
            Edges.due("X of 30 times, without draws", x.about(6), due);
            Edges.due("seed -1", Edges.lanes(2).day(-1, 1), NONE);
            Edges.due("seed 10000", Edges.lanes(2).day(10000, 1), NONE);
            Edges.due("0 times", Edges.lanes(2).day(0, 0), NONE);
            Edges.due("31 times", Edges.lanes(2).day(0, 31), NONE);
        });
        Edges.edge("X mod 5: 0 a GATE: WAY X mod how many there are is SHUT, or OPENED, if it is SHUT (if it isn't a PATH)",
            () -> {
            // seed 3 makes X 50, seed 8 makes it 65
            ElevenBullocks one = Edges.lanes(2);
            one.day(3, 1);
            Edges.due("the one there is", one.ofWay(0, 3), 0);
            ElevenBullocks x = Edges.lanes(4);
            x.day(3, 1);
            Edges.due("50 mod 3: SHUT", x.ofWay(2, 3), 0);
            x.day(3, 1);
            Edges.due("OPENED", x.ofWay(2, 3), 1);
            x.way(0, 3, true);
            x.way(0, 2, true);
            x.day(8, 1);
            Edges.due("65 mod 5: way 0", x.ofWay(0, 3), 0);
            x.way(1, 3, true);
            x.day(8, 1);
            Edges.due("65 mod 6: a PATH stays OPEN", x.ofWay(5, 3), 1);
            Edges.due("a STEP all the same", x.about(9), 4);
            Edges.due("X anew all the same", x.about(6), Edges.anew(65));
        });
        Edges.edge("1 PERSON X mod how many there are is SENT to STRETCH X mod how many there are (if there is one)", () -> {
            // seed 0 makes X 41, seed 5 makes it 56
            ElevenBullocks x = Edges.lanes(3);
            Edges.due("nobody", x.day(0, 1), 0);
            Edges.due("minute", x.about(3), 0);
            x.person(0, false, false, 0);
            x.person(0, false, false, 1);
            x.person(0, false, false, 2);
            x.day(0, 1);
            Edges.due("41 mod 3 to 41 mod 3", x.ofPerson(2, 4), 2);
            Edges.due("where it is", x.ofPerson(2, 3), 2);
            x.person(0, false, false, 2);
            x.stretch(0, 0);
            x.day(5, 1);
            Edges.due("56 mod 4 to 56 mod 4", x.ofPerson(0, 4), 0);
            x.day(5, 1);
            Edges.due("so already: SENT still", x.ofPerson(0, 4), 0);
            Edges.due("each a STEP", x.about(9), 4);
        });
        Edges.edge("else a MINUTE (999 stays: then none); X anew.", () -> {
            // seeds 2, 4 and 1 make X 47, 53 and 44: the rests 2, 3 and 4
            for (int seed : new int[] {2, 4, 1}) {
                ElevenBullocks x = Edges.later(Edges.lanes(2), 998);
                x.day(seed, 1);
                Edges.due("to 999", x.about(3), 999);
                Edges.due("X anew", x.about(6), Edges.anew(seed * 3 + 41));
                x.stray(3, 0);
                Edges.due("999 stays", x.day(seed, 1), 0);
                Edges.due("minute", x.about(3), 999);
                Edges.due("no draw, but X anew", x.about(6), Edges.anew(seed * 3 + 41));
                Edges.due("a STEP all the same", x.about(9), 30);
            }
        });
        Edges.edge("It is one STEP: all that is DONE then. X anew is as in a MOVE.", () -> {
            ElevenBullocks x = Edges.ruled(Edges.lanes(3), "takes 5;");
            x.stray(7, 1);
            int done = x.day(123, 30);
            Edges.due("all that is DONE", done, x.about(5));
            Edges.due("some", done > 0, true);
            Edges.due("one STEP", x.about(9), 2);
            Edges.due("taken back at once", x.undo(), 1);
            Edges.due("X as ahead of it", x.about(6), 41);
            Edges.due("minute", x.about(3), 0);
            Edges.due("done", x.about(5), 0);
        });
    }

    private static void images() {
        Edges.edge("AN IMAGE: all as it is, but the tape and the latest FAULT. BACK: all is so again.", () -> {
            ElevenBullocks x = full();
            x.image();
            String due = Edges.all(with(full(), ElevenBullocks::image));
            spoil(x);
            x.back();
            // the tape and the fault are no part of it: so they are told as they were
            Texts.tell(x, "pace $;");
            x.end(0);
            Edges.due("all is so again", Edges.all(x).equals(due), true);
            ElevenBullocks y = full();
            y.feed(0x20202020, 0x20202020, 0x20202020, 0x20202020, 0x20202020);
            y.image();
            Texts.tell(y, "pace 10000;");
            y.feed(0x20202020, 0x20202020, 0x20202020, 0x20202020, 0x20202020);
            y.feed(0x20202020, 0x20202020, 0x20202020, 0x20202020, 0x20202020);
            y.back();
            Edges.due("the tape stays", y.about(12), 40);
            Edges.due("the latest FAULT stays", y.fault(0), 2);
            Edges.due("and its place", y.fault(1), 5);
        });
        Edges.edge("BACK: all is so again.", () -> {
            ElevenBullocks x = came("takes 10;", 3, 0, 0);
            x.seen(1, 0);
            x.seen(2, 1);
            x.tried(0, true);
            x.image();
            x.seen(NONE, 0);
            x.seen(2, 0);
            x.seen(2, 0);
            x.tried(NONE, true);
            x.tried(0, false);
            x.minute(1);
            x.way(0, 2, true);
            x.way(0, 2, true);
            x.person(1, false, false, 0);
            Edges.due("a way of one", x.soon(0, 2), 1);
            x.back();
            Edges.due("CAME", x.bunch(0, 2), 0);
            Edges.due("SEEN at 1 in 0 and at 2 in 1", x.which(), 1);
            Edges.due("turned", x.turned(0, false), 1);
            x.person(1, false, false, 0);
            Edges.due("a way of two", x.soon(0, 2), 2);
            Edges.due("two WAYS", x.about(1), 2);
            for (int w = 2; w < 5; w++) {
                Edges.due("three more at 0", x.way(0, 2, false), w);
            }
            Edges.due("a fifth at 0", x.way(0, 1, false), NONE);
            Edges.due("WAYS at 0", x.ofStretch(0, 3), 1 | 4 | 8 | 16);
            x.back();
            Edges.due("WAYS at 0", x.ofStretch(0, 3), 1);
            x.undo();
            x.person(1, false, false, 2);
            x.minute(1);
            x.back();
            x.person(1, false, false, 2);
            x.undo();
            Edges.due("told since that STEP of THE IMAGE", x.ofPerson(0, 3), 2);
            Edges.due("its minute", x.about(3), 0);
        });
    }

    /** Three of everything, and thirty steps. */
    private static ElevenBullocks full() {
        ElevenBullocks x = Edges.row(3, 0, 1, 2);
        x.way(0, 3, true);
        x.person(3, false, true, 0);
        x.person(2, true, false, 3);
        x.by(Edges.tell(x, "pace 1;takes 5-back;"));
        Edges.tell(x, "pays 33;");
        x.stray(9, 1);
        x.send(0, 2);
        x.minute(31);
        x.gate(1, false);
        x.seen(2, 2);
        x.tried(1, true);
        x.mending(0, 5, 5, 5, 5);
        Texts.tell(x, "pace $;");
        return x;
    }

    private static void spoil(ElevenBullocks x) {
        x.stretch(1, 9);
        x.way(1, 4, false);
        x.person(9, true, true, 4);
        x.gate(4, false);
        x.gate(1, true);
        x.gate(0, false);
        x.stray(2, 4);
        x.split(0, 1);
        x.send(0, 0);
        x.send(2, 1);
        x.day(99, 30);
        x.minute(40);
        x.by(Edges.tell(x, "pays 1;pace 0;"));
        x.seen(0, 0);
        x.tried(1, false);
        x.tried(3, true);
        x.mending(0, 1, 1, 1, 1);
        x.mending(1, 1, 1, 1, 1);
        x.mending(4, 1, 1, 1, 1);
        x.feed(1, 2, 3, 4, 5);
    }

    public static void main(String[] args) {
        whereTo();
        whoStops();
        whoGoes();
        goesHome();
        seenAt();
        howMany();
        afterWhich();
        payments();
        mendings();
        tries();
        days();
        images();
        Edges.end();
    }
}
