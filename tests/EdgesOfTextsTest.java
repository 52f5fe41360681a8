/** Part II of the document's terms by its own words: tokens, clauses, sums, faults, laws and scripts at their edges. */
public final class EdgesOfTextsTest {
    private static final int NONE = -1;

    private EdgesOfTextsTest() { }

    private static void right(String text) {
        ElevenBullocks x = new ElevenBullocks();
        Edges.due("text() of " + text, Texts.tell(x, text), 0);
        Edges.due("fault(0) of " + text, x.fault(0), 0);
        Edges.due("fault(1) of " + text, x.fault(1), NONE);
    }

    private static void fault(String text, int kind, int place) {
        ElevenBullocks x = new ElevenBullocks();
        Edges.due("text() of " + text, Texts.tell(x, text), NONE);
        Edges.due("fault(0) of " + text, x.fault(0), kind);
        Edges.due("fault(1) of " + text, x.fault(1), place);
    }

    /** What a sum says, from 0 to 100: of 100 that are DONE the law of pays asks for so much. */
    private static void says(String sum, int want) {
        ElevenBullocks x = new ElevenBullocks();
        x.stretch(1, 50);
        x.stray(2, 0);
        x.minute(1);
        Edges.due(sum, x.pays(0, Edges.tell(x, "pays " + sum + ";")), want);
    }

    private static void tokens() {
        Edges.edge("TEXTS 0 .. 3: of up to 300 bytes", () -> {
            ElevenBullocks x = new ElevenBullocks();
            for (int i = 0; i < 4; i++) {
                Edges.due("text " + i, Texts.tell(x, "pays " + i + ";"), i);
            }
            Edges.due("text 4", Texts.tell(x, "pays 4;"), NONE);
            right("");
            right("pace 1;" + " ".repeat(293));
            right(" ".repeat(293) + "pace 1;");
            fault(" ".repeat(293) + "pace 1+", 1, 300);
            fault(" ".repeat(293) + "pace 1$", 1, 299);
            fault(" ".repeat(295) + "pace ", 1, 300);
            fault("pace " + "1+".repeat(147) + "1", 1, 300);
            right("pace " + "1+".repeat(146) + "1 ;");
            right("pace " + "1*".repeat(146) + "1 ;");
        });
        Edges.edge("TOKENS, blanks (32, 10) aside", () -> {
            right("pace\n1\n;\n");
            right("  pace  1  ;  ");
            right("\n");
            String tokens = "<>=#+-*/();";
            for (int b = 0; b < 256; b++) {
                boolean letter = b >= 'a' && b <= 'z' || b >= 'A' && b <= 'Z';
                boolean digit = b >= '0' && b <= '9';
                if (b != 32 && b != 10 && !letter && !digit && tokens.indexOf(b) < 0) {
                    fault("pace" + (char) b + "1;", 1, 4);
                    fault("pace 1;" + (char) b, 1, 7);
                }
            }
            fault("pa ce 1;", 1, 0);
            fault("pace 1 2;", 1, 7);
        });
        Edges.edge("letters a .. z, A .. Z one behind the other (one TOKEN)", () -> {
            fault("paceone 1;", 1, 0);
            fault("pacE 1;", 1, 0);
            fault("PACE 1;", 1, 0);
            fault("pace azAZ;", 1, 5);
            fault("pace aA;", 1, 5);
            fault("pace aZ;", 1, 5);
            fault("pace aa;", 1, 5);
            fault("pace az;", 1, 5);
            fault("pace a[;", 5, 5);
            fault("pace A;", 1, 5);
            fault("pace Z;", 1, 5);
            fault("pace let az be 1 in 1 end;", 1, 9);
            fault("pace let aZ be 1 in 1 end;", 1, 9);
            right("pace1;takes2;");
            fault("pace1takes;", 1, 5);
        });
        Edges.edge("digits likewise (NUMBERS, 0 .. 9999)", () -> {
            right("pace 0;");
            right("pace 9999;");
            fault("pace 10000;", 2, 5);
            right("pace 00000000000000000000;");
            right("pace 0000000000000000009999;");
            fault("pace 00000000000000000010000;", 2, 5);
            fault("pace 4294967296;", 2, 5);
            fault("pace 18446744073709551616;", 2, 5);
            fault("pace " + "9".repeat(290) + ";", 2, 5);
            says("0000042", 42);
            says("9999-9959", 40);
        });
        Edges.edge("<= >= < > = # + - * / ( ) ; (the longest)", () -> {
            says("if 1<=1 then 4 else 5 end", 4);
            says("if 1>=1 then 4 else 5 end", 4);
            says("if 1<1 then 4 else 5 end", 5);
            says("if 1>1 then 4 else 5 end", 5);
            fault("pace if 1< =1", 1, 11);
            fault("pace if 1> =1", 1, 11);
            fault("pace if 1<==1", 1, 11);
            fault("pace if 1>==1", 1, 11);
            fault("pace if 1==1", 1, 10);
            fault("pace if 1=<1", 1, 10);
            fault("pace if 1<>1", 1, 10);
            fault("pace if 1=>1", 1, 10);
            fault("pace if 1##1", 1, 10);
            fault("pace 1<", 1, 6);
            says("if 3<(2+2) then 4 else 5 end", 4);
        });
    }

    private static void grammar() {
        Edges.edge("{CLAUSE}, 24 at most", () -> {
            right("open 1;".repeat(24));
            fault("open 1;".repeat(25), 6, 168);
            right("pace 1;takes 1;pays 1;" + "open 1;".repeat(21));
            fault("pace 1;takes 1;pays 1;" + "open 1;".repeat(22), 6, 169);
        });
        Edges.edge("pace SUM ; or takes SUM ; or pays SUM ; (each once)", () -> {
            right("pace 1;takes 1;pays 1;");
            right("pays 1;takes 1;pace 1;");
            fault("pace 1;pace 1;", 4, 7);
            fault("takes 1;takes 1;", 4, 8);
            fault("pays 1;pays 1;", 4, 7);
            fault("pace;", 1, 4);
            fault("takes 1", 1, 7);
        });
        Edges.edge("stretch NUMBER harm NUMBER ; (KIND) or way NUMBER to NUMBER ; or path NUMBER to NUMBER ; or one"
            + " NUMBER at NUMBER ; (NERVE; on foot, without a BUCKET) or stray NUMBER at NUMBER ; or send NUMBER to"
            + " NUMBER ; or shut NUMBER ; or open NUMBER ; or split NUMBER by NUMBER ; or minute NUMBER ;.", () -> {
            String[][] shapes = {{"stretch", "harm"}, {"way", "to"}, {"path", "to"}, {"one", "at"}, {"stray", "at"},
                {"send", "to"}, {"split", "by"}, {"shut", ""}, {"open", ""}, {"minute", ""}};
            String[] between = {"harm", "to", "at", "by"};
            for (String[] shape : shapes) {
                String begin = shape[0] + " 1 ";
                if (shape[1].isEmpty()) {
                    right(begin + ";");
                    fault(begin + "to 1;", 1, begin.length());
                } else {
                    right(begin + shape[1] + " 1;");
                    fault(begin + ";", 1, begin.length());
                    fault(begin + shape[1] + ";", 1, begin.length() + shape[1].length());
                    fault(begin + shape[1] + " a;", 1, begin.length() + shape[1].length() + 1);
                    for (String other : between) {
                        if (!other.equals(shape[1])) {
                            fault(begin + other + " 1;", 1, begin.length());
                        }
                    }
                }
                fault(shape[0], 1, shape[0].length());
                fault(shape[0] + ";", 1, shape[0].length());
                fault(shape[0] + " -1;", 1, shape[0].length() + 1);
                fault(shape[0] + " (1);", 1, shape[0].length() + 1);
                fault(shape[0] + " size;", 1, shape[0].length() + 1);
            }
            ElevenBullocks x = Edges.lanes(2);
            x.played(Edges.tell(x, "one 9 at 1;"));
            Edges.due("NERVE", x.ofPerson(0, 0), 9);
            Edges.due("on foot", x.ofPerson(0, 1), 0);
            Edges.due("without a BUCKET", x.ofPerson(0, 2), 0);
        });
        Edges.edge("SUM: PRODUCT {+ or - PRODUCT}. PRODUCT: ONE {* or / ONE}.", () -> {
            says("50", 50);
            says("2+3*4", 14);
            says("(2+3)*4", 20);
            says("20/4*5", 25);
            says("20-5+5", 20);
            fault("pays +1;", 1, 5);
            fault("pays *1;", 1, 5);
            fault("pays 1+;", 1, 7);
            fault("pays 1*;", 1, 7);
            fault("pays 1+*1;", 1, 7);
            fault("pays 1/+1;", 1, 7);
        });
        Edges.edge("ONE: NUMBER, NAME, ( SUM ), - ONE, if EITHER then SUM else SUM end, let LETTER be SUM in SUM end",
            () -> {
            says("-0+7", 7);
            says("3*-2+10", 4);
            says("3--2", 5);
            says("-2*-3", 6);
            says("-(1-8)", 7);
            says("-if 1=1 then -9 else 0 end", 9);
            says("-let a be -9 in a end", 9);
            fault("pays -;", 1, 6);
            fault("pays ();", 1, 6);
            fault("pays if 1 then 1 else 1 end;", 1, 10);
            fault("pays if 1=1 then else 1 end;", 1, 17);
            fault("pays if 1=1 then 1 end;", 1, 19);
            fault("pays if 1=1 then 1 else 1;", 1, 25);
            fault("pays if 1=1 else 1 end;", 1, 12);
            fault("pays let a 1 in 1 end;", 1, 11);
            fault("pays let a be 1 1 end;", 1, 16);
            fault("pays let a be 1 in 1;", 1, 20);
            fault("pays let be be 1 in 1 end;", 1, 9);
        });
        Edges.edge("(LETTER: one of a .. z alone, that is so much within the second SUM, also where it was something"
            + " before), LETTER (within such a one)", () -> {
            says("let a be 3 in a end", 3);
            says("let z be 3 in z end", 3);
            fault("pays let A be 3 in 3 end;", 1, 9);
            fault("pays let Z be 3 in 3 end;", 1, 9);
            fault("pays let aa be 3 in 3 end;", 1, 9);
            fault("pays let 1 be 3 in 3 end;", 1, 9);
            says("let a be 3 in let a be 4 in a end end", 4);
            says("let a be 3 in let a be 4 in a end*10+a end", 43);
            says("let a be 3 in let a be a*a in a end end", 9);
            says("let a be 3 in let b be 5 in let a be 7 in a+b end+a end end", 15);
            fault("pays let a be a in a end;", 5, 14);
            fault("pays let a be 1 in b end;", 5, 19);
            fault("pays let a be 1 in a end+a;", 5, 25);
            fault("pays let a be let b be 1 in b end+b in a end;", 5, 34);
            fault("pays let a be 1 in a end;takes a;", 5, 31);
            says("let a be 1 in let b be 2 in let c be 3 in let d be 4 in let e be 5 in let f be 6 in let g be 7 in"
                + " let h be 8 in a+b+c+d+e+f+g+h end end end end end end end end", 36);
        });
        Edges.edge("EITHER: BOTH {or BOTH}. BOTH: ASK {and ASK}. ASK: not ASK, or SUM one of < <= > >= = # (unlike) SUM.",
            () -> {
            says("if 1=1 or 1=2 and 1=2 then 4 else 5 end", 4);
            says("if 1=2 and 1=2 or 1=1 then 4 else 5 end", 4);
            says("if not 1=1 or 1=1 then 4 else 5 end", 4);
            says("if not 1=2 and 1=2 then 4 else 5 end", 5);
            says("if not not 1=1 then 4 else 5 end", 4);
            says("if not 1=1 then 4 else 5 end", 5);
            says("if not 1=2 then 4 else 5 end", 4);
            says("if not not not 1=2 then 4 else 5 end", 4);
            says("if 1=2 or not 1=2 then 4 else 5 end", 4);
            says("if 1=1 and not 1=1 then 4 else 5 end", 5);
            int[][] sides = {{1, 2}, {2, 2}, {3, 2}};
            String[] signs = {"<", "<=", ">", ">=", "=", "#"};
            String holds = "YYNNNYNYNYYNNNYYNY";
            for (int i = 0; i < 3; i++) {
                for (int s = 0; s < 6; s++) {
                    says("if " + sides[i][0] + signs[s] + sides[i][1] + " then 4 else 5 end",
                        holds.charAt(i * 6 + s) == 'Y' ? 4 : 5);
                }
            }
            fault("pays if 1=1=1 then 1 else 1 end;", 1, 11);
            fault("pays if (1=1) then 1 else 1 end;", 1, 10);
            fault("pays if not 1 then 1 else 1 end;", 1, 14);
            fault("pays if 1=1 or then 1 else 1 end;", 1, 15);
            fault("pays if 1=1 and or 1=1 then 1 else 1 end;", 1, 16);
        });
    }

    private static void names() {
        Edges.edge("NAMES: size, place (its STRETCH), kind (of that), here (how many PEOPLE are there) in all; behind",
            () -> {
            String[] names = {"size", "place", "kind", "here", "behind", "ahead", "stood", "bucket", "back", "way",
                "done"};
            String[] laws = {"pace", "takes", "pays"};
            int[] in = {7, 7, 7, 7, 1, 2, 2, 2, 2, 2, 4};
            for (int i = 0; i < names.length; i++) {
                for (int law = 0; law < 3; law++) {
                    String text = laws[law] + " " + names[i] + ";";
                    if ((in[i] >> law & 1) == 1) {
                        right(text);
                    } else {
                        fault(text, 5, laws[law].length() + 1);
                    }
                }
            }
            ElevenBullocks x = Edges.stretches(0, 0, 0, 0, 0, 0, 0, 0, 0, 0, 0, 3);
            x.way(11, 0, false);
            for (int i = 0; i < 6; i++) {
                x.person(9, true, true, 11);
            }
            x.stray(24, 11);
            x.by(Edges.tell(x, "takes if size=24 then place-11+kind+here else 0 end;"));
            Edges.due("the greatest of all", x.takes(0, 0), 9);
        });
        Edges.edge("behind (how many PEOPLE are at the STRETCH it CAME from; 0 without) in pace", () -> {
            ElevenBullocks x = Edges.ruled(Edges.lanes(2), "pace behind;takes 10;");
            x.person(0, false, false, 0);
            x.stray(1, 0);
            Edges.due("0 without", x.bunch(0, 3), 0);
            x.by(Edges.tell(x, "takes 10;"));
            x.minute(1);
            x.by(0);
            Edges.due("one", x.bunch(0, 3), 1);
            x.person(0, false, false, 0);
            Edges.due("two", x.bunch(0, 3), 2);
            x.person(0, false, false, 1);
            Edges.due("not who is with it", x.bunch(0, 3), 2);
            x.by(Edges.tell(x, "pace here;"));
            Edges.due("but here: who is with it", x.bunch(0, 3), 1);
        });
        Edges.edge("ahead (KIND of the other side), stood (the NERVES of the PEOPLE there together), bucket (how many of"
            + " them have one), back (1: it CAME from there; 0), way (its number) in takes", () -> {
            ElevenBullocks y = Edges.row(0, 3, 0);
            y.stray(1, 0);
            String[] laws = {"ahead", "stood/6", "bucket", "back", "way", "if stood=54 then 1 else 0 end"};
            int[] want = {3, 9, 6, 0, 0, 1};
            for (int i = 0; i < 6; i++) {
                y.person(9, false, true, 1);
            }
            y.image();
            for (int i = 0; i < laws.length; i++) {
                y.by(Edges.tell(y, "takes " + laws[i] + ";"));
                Edges.due(laws[i], y.takes(0, 0), want[i]);
                y.back();
            }
            ElevenBullocks x = Edges.stretches(new int[12]);
            for (int i = 0; i < 15; i++) {
                x.way(i % 11, i % 11 + 1, true);
            }
            x.way(11, 5, false);
            x.stray(1, 11);
            x.by(Edges.tell(x, "takes way-9;"));
            Edges.due("the highest way", x.takes(0, 15), 6);
            x.person(4, true, false, 5);
            x.person(0, true, true, 5);
            x.by(Edges.tell(x, "takes bucket;"));
            Edges.due("one of two has a BUCKET", x.takes(0, 15), 1);
            x.by(Edges.tell(x, "takes stood;"));
            Edges.due("both NERVES", x.takes(0, 15), 4);
            ElevenBullocks z = Edges.ruled(Edges.lanes(3), "takes if back=1 then 3 else 10 end;");
            z.stray(1, 0);
            Edges.due("it CAME from none", z.takes(0, 0), 10);
            z.minute(1);
            Edges.due("it CAME from there", z.takes(0, 0), 3);
            Edges.due("not from there", z.takes(0, 1), 10);
        });
        Edges.edge("done (DONE there) in pays", () -> {
            says("done", 100);
            says("done/100", 1);
            says("done-done", 0);
        });
    }

    private static void sums() {
        Edges.edge("From the left; / cuts towards 0, by 0 it is 0", () -> {
            says("7/2", 3);
            says("-7/2+50", 47);
            says("7/-2+50", 47);
            says("-7/-2+50", 53);
            says("1/2", 0);
            says("-1/2+50", 50);
            says("7/0+50", 50);
            says("-7/0+50", 50);
            says("0/0+50", 50);
            says("100/10/5", 2);
            says("50-20-10", 20);
            says("7/(1-1)*9+3", 3);
        });
        Edges.edge("what is above 1000000 (below the same less) is that, at each step", () -> {
            says("1000*1000/(1000*10)", 100);
            says("999*1001+1-1000*1000+7", 7);
            says("1000*1000+1-1000*1000+7", 7);
            says("1001*1000-1000*1000+7", 7);
            says("0-1000*1000-1+1000*1000+7", 7);
            says("-1001*1000+1000*1000+7", 7);
            says("-1000*1000+1000*1000+7", 7);
            says("-999*1001-1+1000*1000+7", 7);
            says("1000*1000+1000*1000-1000*1000+7", 7);
            says("-1000*1000-1000*1000+1000*1000+7", 7);
            says("1000*1000*1000*1000/(1000*100)", 10);
            says("1000*1000*(-1000*1000)/(1000*100)+50", 40);
            says("9999*9999/(1000*100)", 10);
            says("let a be 9999*9999 in a-1000*1000 end+7", 7);
            says("if 9999*9999=1000*1000 then 4 else 5 end", 4);
            ElevenBullocks x = new ElevenBullocks();
            x.stretch(1, 99);
            x.stray(24, 0);
            Edges.later(x, 999);
            int done = 24 * 99 * 999;
            Edges.due("done beyond it", x.pays(0, Edges.tell(x, "pays done/(1000*20);")), done / 2);
        });
        Edges.edge("or and and look at both sides always; of if just the SUM that is chosen is asked", () -> {
            says("if 1=1 or 1/0=1 then 4 else 5 end", 4);
            says("if 1=2 and 1/0=1 then 4 else 5 end", 5);
            says("if 1=1 then 4 else 9999*9999 end", 4);
            says("if 1=2 then 9999*9999 else 5 end", 5);
            says("let a be 1 in if a=1 then let a be 2 in a end else let a be 3 in a end end+a*10 end", 12);
        });
    }

    private static void faults() {
        Edges.edge("FAULTS, the first as TOKENS are come to, at the TOKEN's first byte (of the end at the length), of one"
            + " the least", () -> {
            fault("pace 10000;pace $;", 2, 5);
            fault("pace $;pace 10000;", 1, 5);
            fault("pace   ", 1, 7);
            fault("pace 1\n\n", 1, 8);
            fault("\n\n$", 1, 2);
            fault("pace 1 10000;", 1, 7);
            fault("pace ((((((((1(", 1, 14);
            fault("pace 1 way;", 1, 7);
            fault("pace 1 a;", 1, 7);
            fault("pace 1;".concat("open 1;".repeat(23)).concat("pace 1;"), 4, 168);
            fault("open 1;".repeat(24) + "to", 1, 168);
            fault("open 1;".repeat(24) + "10000", 1, 168);
        });
        Edges.edge("1 it can't stand there, or is none.", () -> {
            fault("$", 1, 0);
            fault(";", 1, 0);
            fault("1;", 1, 0);
            fault("a;", 1, 0);
            fault("size;", 1, 0);
            fault("harm 1;", 1, 0);
            fault("pace 1;;", 1, 7);
            fault("pace pace;", 1, 5);
            fault("pace then;", 1, 5);
            fault("pace not 1=1;", 1, 5);
            fault("pace \u00ff;", 1, 5);
            fault("pace \u0000;", 1, 5);
            fault("pace nonsense;", 1, 5);
        });
        Edges.edge("2 a NUMBER that isn't one of those told (above 9999; KINDS 0 .. 3, HARM 0 .. 99, STRETCHES 0 .. 11,"
            + " NERVES 0 .. 9, beasts 1 .. 24, PEOPLE 0 .. 5, WAYS 0 .. 15, BUNCHES 0 .. 3, MINUTES 1 .. 60).", () -> {
            String[] clauses = {"stretch # harm 0;", "stretch 0 harm #;", "way # to 0;", "way 0 to #;", "path # to 0;",
                "path 0 to #;", "one # at 0;", "one 0 at #;", "stray # at 0;", "stray 1 at #;", "send # to 0;",
                "send 0 to #;", "shut #;", "open #;", "split # by 1;", "split 0 by #;", "minute #;", "pace #;"};
            int[][] told = {{0, 3}, {0, 99}, {0, 11}, {0, 11}, {0, 11}, {0, 11}, {0, 9}, {0, 11}, {1, 24}, {0, 11},
                {0, 5}, {0, 11}, {0, 15}, {0, 15}, {0, 3}, {1, 24}, {1, 60}, {0, 9999}};
            for (int i = 0; i < clauses.length; i++) {
                int place = clauses[i].indexOf('#');
                right(clauses[i].replace("#", "" + told[i][0]));
                right(clauses[i].replace("#", "" + told[i][1]));
                right(clauses[i].replace("#", "00000" + told[i][1]));
                fault(clauses[i].replace("#", "" + (told[i][1] + 1)), 2, place);
                fault(clauses[i].replace("#", "10000"), 2, place);
                fault(clauses[i].replace("#", "99999999999999999999"), 2, place);
                if (told[i][0] > 0) {
                    fault(clauses[i].replace("#", "0"), 2, place);
                }
            }
        });
        Edges.edge("3 the 9th of ( not if let and - (of one ONE) that are open around one another (at it).", () -> {
            right("pace ((((((((1))))))));");
            fault("pace (((((((((1)))))))));", 3, 13);
            right("pace --------1;");
            fault("pace ---------1;", 3, 13);
            right("pace if not not not not not not not 1=1 then 1 else 1 end;");
            fault("pace if not not not not not not not not 1=1 then 1 else 1 end;", 3, 36);
            right("pace " + "if 1=1 then ".repeat(8) + "1" + " else 1 end".repeat(8) + ";");
            fault("pace " + "if 1=1 then ".repeat(9) + "1" + " else 1 end".repeat(9) + ";", 3, 101);
            right("pace " + "if 1=1 then 1 else ".repeat(8) + "1" + " end".repeat(8) + ";");
            fault("pace " + "if 1=1 then 1 else ".repeat(9) + "1" + " end".repeat(9) + ";", 3, 157);
            right("pace " + "if ".repeat(8) + "1" + "=1 then 1 else 1 end".repeat(8) + ";");
            fault("pace " + "if ".repeat(9) + "1" + "=1 then 1 else 1 end".repeat(9) + ";", 3, 29);
            right("pace " + "let a be 1 in ".repeat(8) + "a" + " end".repeat(8) + ";");
            fault("pace " + "let a be 1 in ".repeat(9) + "a" + " end".repeat(9) + ";", 3, 117);
            right("pace " + "let a be ".repeat(8) + "1" + " in a end".repeat(8) + ";");
            fault("pace " + "let a be ".repeat(9) + "1" + " in a end".repeat(9) + ";", 3, 77);
            right("pace -(-(-(-(1))));");
            fault("pace -(-(-(-(-1))));", 3, 13);
            fault("pace -(-(-(-((1)))));", 3, 13);
            fault("pace -(-(-(-(if 1=1 then 1 else 1 end))));", 3, 13);
            fault("pace -(-(-(-(let a be 1 in a end))));", 3, 13);
            fault("pace (((((((if not 1=1 then 1 else 1 end)))))));", 3, 15);
            right("pace ((((((if not 1=1 then 1 else 1 end))))));");
            fault("pace ((((((if not (1)=1", 3, 18);
            fault("pace ((((((if not 1=(1)", 3, 20);
            right("pace ((((((if not 1=1 and not 1=1 then (1) else (1) end))))));");
        });
        Edges.edge("that are open around one another", () -> {
            right("pace ((((((((1))))))))+((((((((1))))))));");
            right("pace (1)+(1)+(1)+(1)+(1)+(1)+(1)+(1)+(1);");
            right("pace -1-1-1-1-1-1-1-1-1-1;");
            right("pace -1+-1+-1+-1+-1+-1+-1+-1+-1;");
            right("pace (((((((1-1-(1))))))))-1;");
            right("pace if not 1=1 and not 1=1 and not 1=1 and not 1=1 and not 1=1 and not 1=1 and not 1=1 and not 1=1"
                + " then 1 else 1 end;");
            right("pace --------1*--------1;");
            right("pace 1---------1;");
            fault("pace 1----------1;", 3, 15);
            right("pace --------1;takes --------1;pays --------1;");
        });
        Edges.edge("4 pace, takes, pays for the second time (at it).", () -> {
            fault("pace 1;takes 1;pays 1;pace", 4, 22);
            fault("pace 1;takes 1;pays 1;takes $", 4, 22);
            fault("pace 1;takes 1;pays 1;pays 10000;", 4, 22);
            fault("open 1;pays 1;open 1;pays", 4, 21);
        });
        Edges.edge("5 a NAME that isn't of that CLAUSE, a LETTER that isn't anything there (at it).", () -> {
            fault("pace 1+ahead;", 5, 7);
            fault("pace done;", 5, 5);
            fault("takes behind;", 5, 6);
            fault("pays way;", 5, 5);
            fault("pace a;", 5, 5);
            fault("pace z;", 5, 5);
            fault("pace way;", 5, 5);
            fault("pace 1;pays behind;", 5, 12);
            fault("pace if a=1 then 1 else 1 end;", 5, 8);
        });
        Edges.edge("6 the 25th CLAUSE (at its first TOKEN).", () -> {
            String most = "open 1;".repeat(24);
            String[] words = {"pace", "takes", "pays", "stretch", "way", "path", "one", "stray", "send", "shut", "open",
                "split", "minute"};
            for (String word : words) {
                fault(most + "\n " + word + " $", 6, 170);
            }
            right(most + "\n ");
        });
    }

    private static ElevenBullocks ruled(String text) {
        ElevenBullocks x = Edges.lanes(3);
        x.person(0, false, false, 0);
        x.person(1, false, false, 2);
        x.stray(1, 1);
        return Edges.ruled(x, text);
    }

    private static void rules() {
        Edges.edge("THE TEXT (told; at first none) rules.", () -> {
            ElevenBullocks x = Edges.lanes(2);
            x.stray(1, 0);
            Edges.due("at first none", x.about(8), NONE);
            Edges.tell(x, "pace 2;");
            Edges.due("a text that is not THE TEXT", x.bunch(0, 3), 1);
            x.by(0);
            Edges.due("it rules", x.bunch(0, 3), 2);
        });
        Edges.edge("pace: 0 at least, 2 at most; without: 1.", () -> {
            int[] says = {-9999, -1, 0, 1, 2, 3, 9999};
            int[] want = {0, 0, 0, 1, 2, 2, 2};
            for (int i = 0; i < says.length; i++) {
                Edges.due("pace " + says[i], ruled("pace " + says[i] + ";").bunch(0, 3), want[i]);
            }
            Edges.due("without", ruled("takes 1;").bunch(0, 3), 1);
            Edges.due("without a text", bare().bunch(0, 3), 1);
        });
        Edges.edge("takes: 0 at least, 10 at most; without: 5, but 0 if stood is above 0.", () -> {
            int[] says = {-9999, -1, 0, 1, 9, 10, 11, 9999};
            int[] want = {0, 0, 0, 1, 9, 10, 10, 10};
            for (int i = 0; i < says.length; i++) {
                Edges.due("takes " + says[i], ruled("takes " + says[i] + ";").takes(0, 0), want[i]);
            }
            Edges.due("without: somebody of NERVE 0", ruled("pace 1;").takes(0, 0), 5);
            Edges.due("without: somebody of NERVE 1", ruled("pace 1;").takes(0, 1), 0);
            Edges.due("without a text, of NERVE 0", bare().takes(0, 0), 5);
            Edges.due("without a text, of NERVE 1", bare().takes(0, 1), 0);
        });
        Edges.edge("pays: 0 at least, 100 at most; without: 100.", () -> {
            says("-9999", 0);
            says("-1", 0);
            says("0", 0);
            says("1", 1);
            says("99", 99);
            says("100", 100);
            says("101", 100);
            says("9999", 100);
            ElevenBullocks x = Edges.stretches(1);
            x.stray(10, 0);
            x.minute(10);
            Edges.due("without", x.pays(0, Edges.tell(x, "pace 0;")), 100);
            Edges.due("without a text", x.pays(0, NONE), 100);
        });
    }

    private static ElevenBullocks bare() {
        ElevenBullocks x = ruled("pace 0;takes 10;");
        x.by(NONE);
        return x;
    }

    /** Played once, on two lanes with a gate and a path, somebody at 0 and five beasts at 0, in a minute near the last. */
    private static ElevenBullocks played(String text, int want) {
        ElevenBullocks x = Edges.lanes(2);
        x.way(0, 1, true);
        x.person(1, false, false, 0);
        x.stray(5, 0);
        Edges.due("played: " + text, x.played(Edges.tell(x, text)), want);
        return x;
    }

    private static void scripts() {
        Edges.edge("PLAYED by a TEXT: its CLAUSES but laws, in their order, as by hand", () -> {
            ElevenBullocks x = played("pace 0;shut 0;open 0;takes 0;shut 0;split 0 by 2;send 0 to 1;pays 0;minute 1;",
                NONE);
            Edges.due("SHUT", x.ofWay(0, 3), 0);
            Edges.due("SENT, and there", x.ofPerson(0, 3), 1);
            Edges.due("no law", x.about(8), NONE);
            Edges.due("steps", x.about(9), 7);
        });
        Edges.edge("one that can't be ends it", () -> {
            String[] cannot = {"way 0 to 0;", "way 0 to 2;", "path 1 to 1;", "path 2 to 0;", "one 0 at 2;", "stray 20 at 0;",
                "stray 1 at 2;", "send 1 to 0;", "send 0 to 2;", "shut 1;", "shut 2;", "open 0;", "open 1;", "open 2;",
                "split 0 by 5;", "split 1 by 1;"};
            for (String clause : cannot) {
                ElevenBullocks x = played("pays 1;" + clause + "stretch 3 harm 7;", 1);
                Edges.due("nothing behind it", x.about(0), 2);
                Edges.due("no step", x.about(9), 1);
            }
            played("send 0 to 1;send 0 to 1;", 1);
            played("shut 0;shut 0;", 1);
            played("stray 1 at 0;stray 1 at 0;stray 1 at 0;stray 1 at 0;", 3);
            played("split 0 by 1;split 0 by 1;split 0 by 1;split 0 by 1;", 3);
            played("stretch 0 harm 0;".repeat(11), 10);
            played("one 0 at 0;".repeat(6), 5);
            played("way 0 to 1;".repeat(3), 2);
        });
        Edges.edge("(of so many MINUTES those that can are): its number among all CLAUSES (from 0); what was done stays.",
            () -> {
            ElevenBullocks x = Edges.later(Edges.lanes(2), 959);
            x.stray(1, 0);
            Edges.due("to 999", x.played(Edges.tell(x, "minute 40;")), NONE);
            x.undo();
            Edges.due("one more than can", x.played(Edges.tell(x, "pace 1;minute 2;shut 0;")), 1);
            Edges.due("those that can are", x.about(3), 999);
            Edges.due("DONE", x.about(5), 40);
            Edges.due("nothing behind it", x.ofWay(0, 3), 1);
            Edges.due("none can", x.played(Edges.tell(x, "shut 0;minute 1;")), 1);
            Edges.due("what was done stays", x.ofWay(0, 3), 0);
            Edges.due("none went by", x.about(5), 40);
        });
    }

    public static void main(String[] args) {
        tokens();
        grammar();
        names();
        sums();
        faults();
        rules();
        scripts();
        Edges.end();
    }
}
