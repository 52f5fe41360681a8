/** The promises one by one: ordinary calls, the edges that the document names, and wrong calls. */
public final class PromisesTest {
    private static final int NONE = -1;
    private static int wrong;
    private static int promise;

    private static void due(String call, long got, long want) {
        if (got != want) {
            wrong++;
            System.out.println("promise " + promise + ": " + call + " answered " + got + ", due is " + want);
        }
    }

    private static void due(String call, boolean got, boolean want) {
        due(call, got ? 1 : 0, want ? 1 : 0);
    }

    /** A text that must be right; its number. */
    private static int tell(ElevenBullocks x, String text) {
        int number = Texts.tell(x, text);
        if (number == NONE) {
            wrong++;
            System.out.println("promise " + promise + ": fault " + x.fault(0) + " at " + x.fault(1) + " in " + text);
        }
        return number;
    }

    private static ElevenBullocks ruledBy(ElevenBullocks x, String text) {
        x.by(tell(x, text));
        return x;
    }

    /** So many lanes in a row, without harm, with gates between neighbours: way i joins i and i + 1. */
    private static ElevenBullocks row(int n) {
        ElevenBullocks x = new ElevenBullocks();
        for (int i = 0; i < n; i++) {
            x.stretch(0, 0);
        }
        for (int i = 0; i + 1 < n; i++) {
            x.way(i, i + 1, false);
        }
        return x;
    }

    /** A row of stretches of these kinds, each with harm 1. */
    private static ElevenBullocks kinds(int... kinds) {
        ElevenBullocks x = new ElevenBullocks();
        for (int k : kinds) {
            x.stretch(k, 1);
        }
        for (int i = 0; i + 1 < kinds.length; i++) {
            x.way(i, i + 1, false);
        }
        return x;
    }

    private static void promise1() {
        ElevenBullocks x = new ElevenBullocks();
        int[] about = {0, 0, 0, 0, 0, 0, 41, 0, NONE, 0, 0, 0, 0};
        for (int i = 0; i < about.length; i++) {
            due("about(" + i + ") of a new one", x.about(i), about[i]);
        }
        for (int b = 0; b < 4; b++) {
            due("size of bunch " + b, x.bunch(b, 0), 0);
            due("stretch of bunch " + b, x.bunch(b, 1), NONE);
        }
        due("undo()", x.undo(), NONE);
        row(3);
        x.stretch(0, 5);
        due("back() of a new one", x.back(), 0);
        due("stretches then", x.about(0), 0);
        due("NONE", ElevenBullocks.NONE, -1);
    }

    private static void promise2() {
        ElevenBullocks x = new ElevenBullocks();
        due("stretch(-1, 0)", x.stretch(-1, 0), NONE);
        due("stretch(4, 0)", x.stretch(4, 0), NONE);
        due("stretch(0, -1)", x.stretch(0, -1), NONE);
        due("stretch(0, 100)", x.stretch(0, 100), NONE);
        for (int i = 0; i < 12; i++) {
            due("stretch " + i, x.stretch(i % 4, i * 9), i);
        }
        due("the 13th", x.stretch(0, 0), NONE);
        due("kind of 11", x.ofStretch(11, 0), 3);
        due("harm of 11", x.ofStretch(11, 1), 99);
    }

    private static void promise3() {
        ElevenBullocks x = new ElevenBullocks();
        for (int i = 0; i < 12; i++) {
            x.stretch(0, 0);
        }
        due("to itself", x.way(3, 3, false), NONE);
        due("way(-1, 0)", x.way(-1, 0, false), NONE);
        due("way(0, 12)", x.way(0, 12, false), NONE);
        due("way 0", x.way(0, 1, false), 0);
        due("the same again", x.way(1, 0, false), 1);
        due("a path there", x.way(0, 1, true), 2);
        due("the fourth", x.way(0, 1, true), 3);
        due("a fifth at 0", x.way(0, 2, false), NONE);
        due("a fifth at 1", x.way(2, 1, true), NONE);
        for (int i = 4; i < 16; i++) {
            int one = 2 + (i - 4) % 10;
            int other = one == 11 ? 2 : one + 1;
            due("way " + i, x.way(one, other, false), i);
        }
        due("a 17th", x.way(6, 8, false), NONE);
        due("open at first", x.ofWay(15, 3), 1);
    }

    private static void promise4() {
        ElevenBullocks x = row(2);
        due("nerve -1", x.person(-1, false, false, 0), NONE);
        due("nerve 10", x.person(10, false, false, 0), NONE);
        due("at -1", x.person(0, false, false, -1), NONE);
        due("at 2", x.person(0, false, false, 2), NONE);
        for (int i = 0; i < 6; i++) {
            due("person " + i, x.person(i == 5 ? 9 : i, i % 2 == 0, i % 3 == 0, i % 2), i);
        }
        due("a seventh", x.person(0, false, false, 0), NONE);
        due("sent nowhere", x.ofPerson(5, 4), NONE);
    }

    private static void promise5() {
        ElevenBullocks x = new ElevenBullocks();
        for (int i = 1; i <= 15; i++) {
            due("feed " + i, x.feed(0x20202020, 0x20202020, 0x20202020, 0x20202020, 0x20202020), i * 20);
        }
        due("feed beyond 300", x.feed(0, 0, 0, 0, 0), NONE);
        due("bytes", x.about(12), 300);
        due("end(281)", x.end(281), 281);
        due("feed to 301", x.feed(0, 0, 0, 0, 0), NONE);
        due("bytes stay", x.about(12), 281);
        due("end(280)", x.end(280), 280);
        // "pace", " 2 ;" and blanks: the highest byte comes first
        due("feed to 300", x.feed(0x70616365, 0x2032203b, 0x20202020, 0x0a0a0a0a, 0x20202020), 300);
        due("text", x.text(), 0);
        due("empty then", x.about(12), 0);
    }

    private static void promise6() {
        ElevenBullocks x = new ElevenBullocks();
        due("end(0)", x.end(0), 0);
        due("end(1) of none", x.end(1), NONE);
        x.feed(0, 0, 0, 0, 0);
        due("end(21)", x.end(21), NONE);
        due("end(-1)", x.end(-1), NONE);
        due("bytes stay", x.about(12), 20);
        due("end(20)", x.end(20), 20);
        due("end(7)", x.end(7), 7);
        due("bytes", x.about(12), 7);
    }

    private static void promise7() {
        ElevenBullocks x = new ElevenBullocks();
        due("the empty text", x.text(), 0);
        due("faulty", Texts.tell(x, "pace ;"), NONE);
        due("the tape is empty then", x.about(12), 0);
        due("texts", x.about(7), 1);
        due("text 1", Texts.tell(x, "pace 1;"), 1);
        due("text 2", Texts.tell(x, "  \n "), 2);
        due("text 3", Texts.tell(x, "takes way;"), 3);
        due("no fifth", Texts.tell(x, "pace $;"), NONE);
        due("the tape stays", x.about(12), 7);
        due("it was not read", x.fault(0), 0);
        promise7Values();
    }

    /** What sums say, through pays: of 100 done the answer is what the law says. */
    private static void value(String sum, int want) {
        ElevenBullocks x = new ElevenBullocks();
        x.stretch(1, 50);
        x.person(1, false, false, 0);
        x.stray(2, 0);
        x.minute(1);
        due("pays " + sum, x.pays(0, tell(x, "pays " + sum + ";")), want);
    }

    private static void promise7Values() {
        value("7", 7);
        value("007", 7);
        value("1+2*3", 7);
        value("(1+2)*3", 9);
        value("20-5-3", 12);
        value("50/7/2", 3);
        value("-7/2+10", 7);
        value("9-  - 4", 13);
        value("--5", 5);
        value("5/0+3", 3);
        value("9999*9999/9999", 100);
        value("9999*9999/9999/2", 50);
        value("9999*9999+1-9999*100-90", 10);
        value("0-9999*9999-5+9999*100+142", 42);
        value("9999*9999+9999-9999*9999+77", 77);
        value("if 1=1 then 4 else 5 end", 4);
        value("if 1#1 then 4 else 5 end", 5);
        value("if 1<1 or 2>=2 then 4 else 5 end", 4);
        value("if 1<=1 and 2>2 then 4 else 5 end", 5);
        value("if 1=1 or 1=1 and 1=2 then 4 else 5 end", 4);
        value("if not 1=2 and not not 1=1 then 4 else 5 end", 4);
        value("if not 1=2 or 1=1 then 4 else 5 end", 4);
        value("let a be 3 in let a be a*2 in a end+a end", 9);
        value("let a be 2 in let b be a+1 in a*b end+let b be 5 in b end end", 11);
        value("let a be let a be 4 in a+1 end in a end", 5);
        value("let z be done in z/4 end", 25);
        value("(((((let a be 2 in let b be 3 in let c be 5 in a*b*c end end end)))))", 30);
        value("if 2>=2 and 1<=1 and 3>2 and 2<3 and 1=1 and 1#2 then 4 else 5 end", 4);
        value("if not 2>=2 or not 1<=1 or not 3>2 or not 2<3 or not 1=1 or not 1#2 then 4 else 5 end", 5);
        value("if not 2>2 and not 2<2 and not 2#2 and not 2=3 and not 2>=3 and not 3<=2 then 4 else 5 end", 4);
        value("size", 0);
        value("place+kind*10+here*20", 30);
        value("((((((((8))))))))", 8);
        value("if 1<2 then let q be 5 in -(q-7) end else 0 end*10", 20);
        value("1000", 100);
        value("-1", 0);
    }

    private static void fault(String text, int kind, int place) {
        ElevenBullocks x = new ElevenBullocks();
        due("text() of " + text, Texts.tell(x, text), NONE);
        due("fault(0) of " + text, x.fault(0), kind);
        due("fault(1) of " + text, x.fault(1), place);
    }

    private static void promise8() {
        ElevenBullocks x = new ElevenBullocks();
        due("ahead of any, 0", x.fault(0), NONE);
        due("ahead of any, 1", x.fault(1), NONE);
        Texts.tell(x, "pace 1;");
        due("without a fault", x.fault(0), 0);
        due("its place", x.fault(1), NONE);
        Texts.tell(x, "pace 1");
        due("fault(2)", x.fault(2), NONE);
        due("fault(-1)", x.fault(-1), NONE);
        x.back();
        due("back leaves the fault", x.fault(0), 1);
        due("and its place", x.fault(1), 6);
        promise8Kinds();
        promise8Numbers();
        promise8Depth();
    }

    private static void promise8Kinds() {
        fault("pace 1", 1, 6);
        fault("pace 1  ", 1, 8);
        fault("pace 1;\t", 1, 7);
        fault("pace \u00e9;", 1, 5);
        fault("Pace 1;", 1, 0);
        fault("pace1;;", 1, 6);
        fault("pacer 1;", 1, 0);
        fault("pace pace;", 1, 5);
        fault("pace to;", 1, 5);
        fault("pace Q;", 1, 5);
        fault("pace aA;", 1, 5);
        fault("pace zZ;", 1, 5);
        fault("pace a0;", 5, 5);
        fault("pace [;", 1, 5);
        fault("pace ();", 1, 6);
        fault("pace 1 2;", 1, 7);
        fault("pace 1 10000;", 1, 7);
        fault("pace (1;", 1, 7);
        fault("pace 1);", 1, 6);
        fault("pace if (1=1) then 1 else 2 end;", 1, 10);
        fault("pace if 1==1 then 1 else 2 end;", 1, 10);
        fault("pace if 1=1 then 1 else 2;", 1, 25);
        fault("pace not 1=1;", 1, 5);
        fault("pace let a be 1 in 1;", 1, 20);
        fault("pace let size be 1 in 1 end;", 1, 9);
        fault("12 pace", 1, 0);
        fault("shut size;", 1, 5);
        fault("shut 0 to 1;", 1, 7);
        fault("minute 1; minute", 1, 16);
        fault("pace way;", 5, 5);
        fault("pays behind;", 5, 5);
        fault("takes done;", 5, 6);
        fault("pays bucket;", 5, 5);
        fault("pace back;", 5, 5);
        fault("pace let a be 1 in b end;", 5, 19);
        fault("takes 1;pace 2;takes 3;", 4, 15);
        fault("pays 1;pays $", 4, 7);
        String most = "open 1;".repeat(24);
        fault(most + "minute 1;", 6, 168);
        fault(most + "end", 1, 168);
        fault("pace 1;" + "open 1;".repeat(23) + "pace 1;", 4, 168);
        due("24 clauses", Texts.tell(new ElevenBullocks(), most), 0);
    }

    private static void promise8Numbers() {
        String[] wrongOnes = {"stretch 4 harm 0;", "way 12 to 0;", "path 12 to 0;", "one 10 at 0;", "stray 0 at 0;",
            "stray 25 at 0;", "send 6 to 0;", "shut 16;", "open 16;", "split 4 by 1;", "minute 0;", "minute 61;",
            "open 99999999999999999999;"};
        for (String text : wrongOnes) {
            fault(text, 2, text.indexOf(' ') + 1);
        }
        String[] secondWrong = {"stretch 3 harm 100;", "way 11 to 12;", "path 0 to 12;", "one 9 at 12;",
            "stray 24 at 12;", "send 5 to 12;", "split 3 by 25;", "split 0 by 0;"};
        for (String text : secondWrong) {
            fault(text, 2, text.lastIndexOf(' ') + 1);
        }
        fault("pace 1+10000;", 2, 7);
        ElevenBullocks x = new ElevenBullocks();
        due("the greatest", Texts.tell(x, "stretch 3 harm 99;way 11 to 11;path 11 to 11;one 9 at 11;stray 24 at 11;"
            + "send 5 to 11;shut 15;open 15;split 3 by 24;minute 60;pays 9999;"), 0);
        due("the least", Texts.tell(x, "stretch 0 harm 0;way 0 to 0;path 0 to 0;one 0 at 0;stray 1 at 0;send 0 to 0;"
            + "shut 0;open 0;split 0 by 1;minute 1;pays 0;"), 1);
    }

    private static void promise8Depth() {
        fault("pace ---------1;", 3, 13);
        fault("pace -(-(-(-((1;", 3, 13);
        fault("pace 2--------1-(1);pace", 4, 20);
        fault("pace if not not not not not not not not 1=1", 3, 36);
        fault("pace ((((((((if", 3, 13);
        fault("pace ((((((((let", 3, 13);
        fault("pace ((((((((-", 3, 13);
        fault("pace (((((((if not", 3, 15);
        due("eight", Texts.tell(new ElevenBullocks(), "pace ((((((if not 1=1 then 1 else 2 end)+(2))))));"), 0);
        due("eight after eight", Texts.tell(new ElevenBullocks(), "pace --------1+((((((((1))))))));"), 0);
    }

    private static void promise9() {
        ElevenBullocks x = new ElevenBullocks();
        due("by(0) without one", x.by(0), false);
        due("by(NONE)", x.by(NONE), true);
        tell(x, "pace 2;");
        due("by(0)", x.by(0), true);
        due("again", x.by(0), true);
        due("by(1)", x.by(1), false);
        due("by(-2)", x.by(-2), false);
        due("it stays", x.about(8), 0);
        x.stretch(0, 0);
        x.stray(1, 0);
        due("pace by it", x.bunch(0, 3), 2);
        due("by(NONE)", x.by(NONE), true);
        due("pace without", x.bunch(0, 3), 1);
    }

    private static void promise10() {
        ElevenBullocks x = row(2);
        due("stray(0)", x.stray(0, 0), NONE);
        due("stray(25)", x.stray(25, 0), NONE);
        due("at 2", x.stray(1, 2), NONE);
        due("at -1", x.stray(1, -1), NONE);
        due("no step", x.about(9), 0);
        due("24", x.stray(24, 1), 0);
        due("one more", x.stray(1, 0), NONE);
        x.undo();
        for (int b = 0; b < 4; b++) {
            due("bunch " + b, x.stray(6 - (b == 3 ? 1 : 0), 0), b);
        }
        due("a fifth", x.stray(1, 0), NONE);
        due("beasts", x.about(4), 23);
        due("steps", x.about(9), 4);
    }

    private static void promise11() {
        ElevenBullocks x = row(2);
        due("minute(0)", x.minute(0), NONE);
        due("minute(61)", x.minute(61), NONE);
        due("minute(60)", x.minute(60), 0);
        for (int i = 1; i < 16; i++) {
            x.minute(60);
        }
        due("minute", x.about(3), 960);
        due("beyond 999", x.minute(40), NONE);
        due("none went by", x.about(3), 960);
        due("to 999", x.minute(39), 0);
        due("999 stays", x.minute(1), NONE);
        promise11People();
        promise11Beasts();
        promise11Joined();
    }

    private static void promise11People() {
        // a ring of five with a path: from 0 to 2 by 1 or by 3, both two ways; 4 hangs at 2
        ElevenBullocks x = new ElevenBullocks();
        for (int i = 0; i < 6; i++) {
            x.stretch(0, 0);
        }
        x.way(0, 3, false);
        x.way(3, 2, false);
        x.way(0, 1, true);
        x.way(1, 2, false);
        x.way(2, 4, false);
        x.person(0, false, false, 0);
        x.person(0, true, false, 0);
        x.person(0, true, false, 0);
        x.person(0, false, false, 5);
        x.gate(3, false);
        x.send(0, 2);
        x.send(1, 4);
        x.send(2, 1);
        x.send(3, 0);
        x.minute(1);
        due("the lowest next, by a path", x.ofPerson(0, 3), 1);
        due("on wheels twice, by a shut gate", x.ofPerson(1, 3), 2);
        due("on wheels, there already", x.ofPerson(2, 3), 1);
        due("no way there", x.ofPerson(3, 3), 5);
        x.minute(1);
        due("on foot", x.ofPerson(0, 3), 2);
        due("on wheels", x.ofPerson(1, 3), 4);
        due("stays sent", x.ofPerson(1, 4), 4);
    }

    private static void promise11Beasts() {
        ElevenBullocks x = ruledBy(row(12), "pace 2;takes if back=1 then 0 else 10 end;");
        x.stray(3, 0);
        x.minute(1);
        due("two moves", x.bunch(0, 1), 2);
        due("came from", x.bunch(0, 2), 1);
        due("no draw for 10 and 0", x.about(6), 41);
        x.gate(2, false);
        x.minute(1);
        due("not by a shut one", x.bunch(0, 1), 2);
        // 41 draws 1, then X is 9936 and draws 6, then 19007 draws 7
        x = ruledBy(row(3), "takes if way=0 then 1 else 7 end;");
        x.stray(1, 1);
        x.minute(1);
        due("1 of 1 not, 6 of 7 taken", x.bunch(0, 1), 2);
        due("X", x.about(6), 19007);
        x.minute(1);
        due("7 of 7 not taken", x.bunch(0, 1), 2);
        // people move first: the way is stood in as the beasts come
        x = row(3);
        x.person(1, false, false, 2);
        x.send(0, 1);
        x.stray(1, 0);
        x.minute(1);
        due("stood in the way", x.bunch(0, 1), 0);
        due("no draw", x.about(6), 41);
        // pace looks behind, where people stand then
        x = ruledBy(row(6), "pace behind;takes 10-10*back;");
        x.person(0, false, false, 1);
        x.stray(1, 0);
        x.minute(1);
        due("nobody behind", x.bunch(0, 1), 0);
    }

    private static void promise11Joined() {
        ElevenBullocks x = ruledBy(new ElevenBullocks(), "pace 1-place;takes 10;");
        x.stretch(0, 3);
        x.stretch(1, 5);
        x.way(0, 1, false);
        x.stray(2, 1);
        x.stray(4, 0);
        x.stray(1, 1);
        due("harm where they are then", x.minute(1), 35);
        due("of the lane", x.ofStretch(0, 2), 0);
        due("one bunch", x.bunch(0, 0), 7);
        due("came as its own", x.bunch(0, 2), NONE);
        due("the others none", x.bunch(1, 0) + x.bunch(2, 0), 0);
        due("nowhere", x.bunch(1, 1), NONE);
    }

    private static void promise12() {
        ElevenBullocks x = row(3);
        x.person(0, false, false, 1);
        due("send(0, NONE) is so", x.send(0, NONE), false);
        due("send(1, 0)", x.send(1, 0), false);
        due("send(-1, 0)", x.send(-1, 0), false);
        due("send(0, 3)", x.send(0, 3), false);
        due("send(0, -2)", x.send(0, -2), false);
        due("no step", x.about(9), 0);
        due("send(0, 2)", x.send(0, 2), true);
        due("again", x.send(0, 2), false);
        due("elsewhere", x.send(0, 0), true);
        due("nowhere", x.send(0, NONE), true);
        due("to where it is", x.send(0, 1), true);
        due("steps", x.about(9), 4);
    }

    private static void promise13() {
        ElevenBullocks x = row(2);
        x.way(0, 1, true);
        due("open is so", x.gate(0, true), false);
        due("a path", x.gate(1, false), false);
        due("gate(2)", x.gate(2, false), false);
        due("gate(-1)", x.gate(-1, false), false);
        due("shut", x.gate(0, false), true);
        due("shut is so", x.gate(0, false), false);
        due("of it", x.ofWay(0, 3), 0);
        due("opened", x.gate(0, true), true);
        due("steps", x.about(9), 2);
    }

    private static void promise14() {
        ElevenBullocks x = ruledBy(row(3), "takes 10-10*back;");
        due("split none", x.split(0, 1), NONE);
        x.stray(10, 0);
        x.minute(1);
        due("split(0, 10)", x.split(0, 10), NONE);
        due("split(0, 0)", x.split(0, 0), NONE);
        due("split(-1, 1)", x.split(-1, 1), NONE);
        due("split(4, 1)", x.split(4, 1), NONE);
        due("split(0, 9)", x.split(0, 9), 1);
        due("left", x.bunch(0, 0), 1);
        due("new", x.bunch(1, 0), 9);
        due("there", x.bunch(1, 1), 1);
        due("came likewise", x.bunch(1, 2), 0);
        x.split(1, 1);
        x.split(1, 1);
        due("four are there", x.split(1, 1), NONE);
    }

    private static void promise15() {
        ElevenBullocks x = new ElevenBullocks();
        due("played(0)", x.played(0), -2);
        due("played(-1)", x.played(-1), -2);
        int all = tell(x, "pace 1;stretch 0 harm 2;stretch 3 harm 0;path 1 to 0;way 0 to 1;one 4 at 1;stray 5 at 0;"
            + "send 0 to 0;split 0 by 2;shut 1;minute 2;open 1;takes 5;");
        due("all is done", x.played(all), NONE);
        due("done", x.about(5), 20);
        due("person", x.ofPerson(0, 0), 4);
        due("on foot", x.ofPerson(0, 1) + x.ofPerson(0, 2), 0);
        due("a path", x.ofWay(0, 2), 1);
        due("steps", x.about(9), 7);
        due("the law is not THE TEXT", x.about(8), NONE);
        int some = tell(x, "pays 1;open 1;shut 1;");
        due("open is so", x.played(some), 1);
        due("nothing behind it", x.ofWay(1, 3), 1);
        int late = tell(x, "minute 60;".repeat(17) + "shut 1;");
        due("beyond 999", x.played(late), 16);
        due("those that can are", x.about(3), 999);
        due("the empty one", x.played(tell(x, "")), NONE);
    }

    private static void promise16() {
        ElevenBullocks x = new ElevenBullocks();
        x.stretch(0, 1);
        x.stretch(0, 1);
        due("without ways", x.day(0, 1), NONE);
        x.way(0, 1, false);
        x.way(0, 1, true);
        due("day(-1, 1)", x.day(-1, 1), NONE);
        due("day(10000, 1)", x.day(10000, 1), NONE);
        due("day(0, 0)", x.day(0, 0), NONE);
        due("day(0, 31)", x.day(0, 31), NONE);
        due("no step", x.about(9), 0);
        // seed 3: X 50, a gate: way 0
        due("a gate", x.day(3, 1), 0);
        due("shut", x.ofWay(0, 3), 0);
        due("X anew", x.about(6), (50 * 239 + 137) % 30203);
        x.day(3, 1);
        due("opened", x.ofWay(0, 3), 1);
        // seed 8: X 65: way 1, a path
        x.day(8, 1);
        due("a path stays", x.ofWay(1, 3), 1);
        due("nobody to send", x.day(0, 1), 0);
        x.stray(3, 0);
        // seed 1: X 44, a minute: takes 5, 4 is below it, so X is drawn once and anew once more
        due("a minute", x.day(1, 1), 3);
        int drawn = (44 * 239 + 137) % 30203;
        due("X of both", x.about(6), (drawn * 239 + 137) % 30203);
        due("moved", x.bunch(0, 1), 1);
        due("minute", x.about(3), 1);
        due("steps", x.about(9), 6);
        due("30 times", x.day(9999, 30) >= 3, true);
        due("one step", x.about(9), 7);
        due("taken back", x.undo(), 6);
        due("X then", x.about(6), (drawn * 239 + 137) % 30203);
        for (int i = 0; i < 16; i++) {
            x.minute(60);
        }
        x.minute(38);
        x.day(1, 30);
        due("999 stays", x.about(3), 999);
        x.person(0, false, false, 0);
        x.day(0, 1);
        due("sent to 41 mod 2", x.ofPerson(0, 4), 1);
    }

    private static void promise17() {
        ElevenBullocks x = row(3);
        x.person(1, false, false, 0);
        due("nothing", x.undo(), NONE);
        x.stray(4, 1);
        x.send(0, 2);
        x.gate(0, false);
        x.way(0, 2, false);
        x.gate(2, false);
        x.person(2, true, true, 2);
        x.send(1, 0);
        x.minute(3);
        due("steps", x.about(9), 8);
        due("person 0", x.ofPerson(0, 3), 2);
        due("a minute back", x.undo(), 7);
        due("minute", x.about(3), 2);
        x.undo();
        x.undo();
        due("where it was", x.ofPerson(0, 3), 0);
        due("sent still", x.ofPerson(0, 4), 2);
        x.minute(1);
        x.undo();
        x.undo();
        due("told since: as told", x.ofPerson(1, 3), 2);
        due("sent nowhere", x.ofPerson(1, 4), NONE);
        due("gate 2 back", x.undo(), 3);
        due("told since: open", x.ofWay(2, 3), 1);
        due("ways stay", x.about(1), 3);
        due("people stay", x.about(2), 2);
        x.undo();
        due("gate 0 back", x.ofWay(0, 3), 1);
        x.undo();
        due("the last", x.undo(), 0);
        due("no beasts", x.about(4), 0);
        due("none", x.undo(), NONE);
        promise17Most();
    }

    private static void promise17Most() {
        ElevenBullocks x = row(2);
        x.stray(1, 0);
        x.minute(35);
        due("30 at most", x.about(9), 30);
        for (int i = 29; i >= 0; i--) {
            due("undo", x.undo(), i);
        }
        due("no more", x.undo(), NONE);
        due("minute", x.about(3), 5);
        due("beasts", x.about(4), 1);
        // told since a minute, moved by it: it is where it was told, not where it stood
        x = row(4);
        x.minute(1);
        x.person(0, false, false, 3);
        x.stretch(1, 9);
        x.undo();
        due("as told", x.ofPerson(0, 3), 3);
        due("stretches stay", x.about(0), 5);
    }

    private static void promise18() {
        ElevenBullocks x = ruledBy(row(3), "pace if behind>0 then 9 else -9 end;takes 10;");
        x.stray(7, 2);
        due("size", x.bunch(0, 0), 7);
        due("stretch", x.bunch(0, 1), 2);
        due("came", x.bunch(0, 2), NONE);
        due("pace at least 0", x.bunch(0, 3), 0);
        due("none: size", x.bunch(3, 0), 0);
        for (int what = 1; what < 4; what++) {
            due("none: " + what, x.bunch(3, what), NONE);
        }
        due("bunch(4, 0)", x.bunch(4, 0), -2);
        due("bunch(-1, 0)", x.bunch(-1, 0), -2);
        due("bunch(0, 4)", x.bunch(0, 4), -2);
        due("bunch(3, -1)", x.bunch(3, -1), -2);
        x.by(NONE);
        x.person(0, false, false, 2);
        x.minute(1);
        due("came from", x.bunch(0, 2), 2);
        x.by(0);
        due("pace at most 2", x.bunch(0, 3), 2);
        x.by(tell(x, "takes 1;"));
        due("pace without", x.bunch(0, 3), 1);
        x.by(tell(x, "pace size/7+kind+here+place-1;"));
        due("names", x.bunch(0, 3), 1);
    }

    private static void promise19() {
        ElevenBullocks x = row(3);
        x.person(9, true, false, 2);
        x.person(0, false, true, 1);
        x.send(1, 0);
        int[][] want = {{9, 1, 0, 2, NONE}, {0, 0, 1, 1, 0}};
        for (int p = 0; p < 2; p++) {
            for (int what = 0; what < 5; what++) {
                due("ofPerson(" + p + ", " + what + ")", x.ofPerson(p, what), want[p][what]);
            }
        }
        due("ofPerson(2, 0)", x.ofPerson(2, 0), -2);
        due("ofPerson(-1, 0)", x.ofPerson(-1, 0), -2);
        due("ofPerson(0, 5)", x.ofPerson(0, 5), -2);
        due("ofPerson(0, -1)", x.ofPerson(0, -1), -2);
    }

    private static void promise20() {
        ElevenBullocks x = row(3);
        x.stretch(3, 42);
        x.way(3, 1, true);
        x.stray(2, 3);
        x.minute(3);
        due("kind", x.ofStretch(3, 0), 3);
        due("harm", x.ofStretch(3, 1), 42);
        due("done", x.ofStretch(3, 2), 252);
        due("ways", x.ofStretch(3, 3), 4);
        due("ways of 1", x.ofStretch(1, 3), 7);
        due("ofStretch(4, 0)", x.ofStretch(4, 0), NONE);
        due("ofStretch(-1, 0)", x.ofStretch(-1, 0), NONE);
        due("ofStretch(0, 4)", x.ofStretch(0, 4), NONE);
        due("ofStretch(0, -1)", x.ofStretch(0, -1), NONE);
    }

    private static void promise21() {
        ElevenBullocks x = row(3);
        x.way(2, 0, true);
        x.gate(1, false);
        int[][] want = {{0, 1, 0, 1}, {1, 2, 0, 0}, {2, 0, 1, 1}};
        for (int w = 0; w < 3; w++) {
            for (int what = 0; what < 4; what++) {
                due("ofWay(" + w + ", " + what + ")", x.ofWay(w, what), want[w][what]);
            }
        }
        due("ofWay(3, 0)", x.ofWay(3, 0), NONE);
        due("ofWay(-1, 0)", x.ofWay(-1, 0), NONE);
        due("ofWay(0, 4)", x.ofWay(0, 4), NONE);
        due("ofWay(0, -1)", x.ofWay(0, -1), NONE);
    }

    private static void promise22() {
        ElevenBullocks x = kinds(0, 0, 2);
        x.way(1, 0, true);
        x.person(3, false, true, 2);
        x.person(4, true, true, 2);
        x.person(0, true, true, 0);
        x.stray(6, 1);
        due("stood", x.takes(0, 1), 0);
        due("a nerve of 0 does not stand", x.takes(0, 0), 5);
        due("a path", x.takes(0, 2), NONE);
        due("takes(1, 0)", x.takes(1, 0), NONE);
        due("takes(0, 3)", x.takes(0, 3), NONE);
        due("takes(0, -1)", x.takes(0, -1), NONE);
        due("takes(-1, 0)", x.takes(-1, 0), NONE);
        x.gate(0, false);
        due("shut", x.takes(0, 0), 0);
        x.gate(0, true);
        String[] laws = {"ahead*3", "stood", "bucket*4", "way*9", "size+here", "place*5+kind", "11", "0-1"};
        int[] want = {6, 7, 8, 9, 6, 5, 10, 0};
        for (int i = 0; i < laws.length; i++) {
            x.image();
            x.by(tell(x, "takes " + laws[i] + ";"));
            due("takes " + laws[i], x.takes(0, 1), want[i]);
            x.back();
        }
        x.by(tell(x, "takes 10-back*8;"));
        x.minute(1);
        due("back", x.takes(0, 0), 2);
        due("not at its stretch", x.takes(0, 1), NONE);
    }

    private static void odds(String what, ElevenBullocks x, int n, int stretch, long upper, long lower) {
        due(what + ", upper", x.where(0, n, stretch, false), upper);
        due(what + ", lower", x.where(0, n, stretch, true), lower);
    }

    private static void promise23() {
        ElevenBullocks x = row(3);
        x.stray(1, 0);
        odds("none", x, 0, 0, 1, 1);
        odds("none, elsewhere", x, 0, 1, 0, 1);
        odds("one", x, 1, 1, 1, 2);
        odds("two: stays, or comes back", x, 2, 0, 1, 2);
        odds("two: on", x, 2, 2, 1, 8);
        odds("two: between", x, 2, 1, 3, 8);
        x.by(tell(x, "takes if back=1 then 1 else 3 end;"));
        odds("four, by where it came from", x, 4, 2, 2715039, 10000000);
        due("where(0, 5)", x.where(0, 5, 0, true), NONE);
        due("where(0, -1)", x.where(0, -1, 0, true), NONE);
        due("where(1, 1)", x.where(1, 1, 0, true), NONE);
        due("where(-1, 1)", x.where(-1, 1, 0, true), NONE);
        due("where at 3", x.where(0, 1, 3, true), NONE);
        due("where at -1", x.where(0, 1, -1, false), NONE);
        due("X stays", x.about(6), 41);
        x.by(tell(x, "takes 10;"));
        odds("always", x, 4, 0, 1, 1);
        // four ways at 0, each taken 1 of 10: the lower one of four moves has all 16 tens
        ElevenBullocks y = new ElevenBullocks();
        for (int i = 0; i < 5; i++) {
            y.stretch(0, 0);
        }
        for (int i = 1; i < 5; i++) {
            y.way(0, i, false);
        }
        y.stray(1, 0);
        y.by(tell(y, "takes if place=0 then 1 else 0 end;"));
        odds("stays four times", y, 4, 0, 1853020188851841L, 10000000000000000L);
        odds("by the fourth way, in one", y, 1, 4, 729, 10000);
    }

    private static void promise24() {
        ElevenBullocks x = row(5);
        x.way(0, 4, true);
        x.stray(1, 1);
        due("all", x.canCome(0), 31);
        x.gate(2, false);
        due("a shut gate", x.canCome(0), 7);
        x.person(2, false, false, 0);
        due("stood in", x.canCome(0), 6);
        due("canCome(1)", x.canCome(1), NONE);
        due("canCome(-1)", x.canCome(-1), NONE);
        due("canCome(4)", x.canCome(4), NONE);
        x.gate(2, true);
        x.by(tell(x, "takes if way=1 then 10 else 4 end;"));
        due("way 2 is behind one of 10", x.canCome(0), 7);
        x.by(tell(x, "takes if way=0 then 10 else 4 end;"));
        due("none behind way 0", x.canCome(0), 3);
        x.by(tell(x, "takes if back=1 then 10 else 4 end;"));
        due("it comes back, by 10", x.canCome(0), 7);
    }

    private static void promise25() {
        // a lane with two side lanes that end at roads, and a road at its end
        ElevenBullocks x = new ElevenBullocks();
        for (int kind : new int[] {0, 0, 0, 2, 2, 2, 0}) {
            x.stretch(kind, 0);
        }
        x.way(6, 0, false);
        x.way(0, 1, false);
        x.way(0, 2, false);
        x.way(1, 3, false);
        x.way(1, 4, false);
        x.way(2, 5, false);
        x.stray(3, 6);
        due("one is enough", x.stopped(0, 1), 1);
        due("of nerve 0", x.stopped(0, 0), NONE);
        due("nerve -1", x.stopped(0, -1), NONE);
        due("nerve 10", x.stopped(0, 10), NONE);
        due("no bunch", x.stopped(1, 1), NONE);
        due("nothing changes", x.about(9), 1);
        x.undo();
        x.stray(3, 0);
        due("two, not where it is", x.stopped(0, 9), 6);
        x.undo();
        x.stray(3, 1);
        due("two roads and a lane", x.stopped(0, 9), 25);
        x.undo();
        x.stray(3, 3);
        due("on a road", x.stopped(0, 9), NONE);
        x.undo();
        x.stray(3, 1);
        x.by(tell(x, "takes if stood+here>4 then 0 else 5 end;"));
        due("a nerve of 4 is not enough", x.stopped(0, 4), NONE);
        due("a nerve of 5 is", x.stopped(0, 5), 25);
        x.by(tell(x, "takes if here>0 then 0 else 5 end;"));
        due("it stays with somebody, but is on a road then", x.stopped(0, 9), NONE);
        x.gate(3, false);
        x.gate(4, false);
        due("somebody beside it", x.stopped(0, 0), 1);
        x.gate(1, false);
        due("none is needed", x.stopped(0, 0), 0);
    }

    private static void promise26() {
        ElevenBullocks x = row(6);
        x.stretch(0, 0);
        x.way(0, 5, true);
        x.gate(0, false);
        x.person(0, false, false, 0);
        x.person(0, true, false, 0);
        int[] foot = {0, 1, 2, 3, 2, 1, NONE};
        int[] wheels = {0, 1, 1, 2, 1, 1, NONE};
        for (int s = 0; s < 7; s++) {
            due("on foot to " + s, x.soon(0, s), foot[s]);
            due("on wheels to " + s, x.soon(1, s), wheels[s]);
        }
        due("soon(2, 0)", x.soon(2, 0), NONE);
        due("soon(-1, 0)", x.soon(-1, 0), NONE);
        due("soon(0, 7)", x.soon(0, 7), NONE);
        due("soon(0, -1)", x.soon(0, -1), NONE);
    }

    private static void promise27() {
        ElevenBullocks x = row(8);
        x.stretch(0, 0);
        x.person(0, false, false, 0);
        x.person(0, false, false, 4);
        x.person(0, true, false, 4);
        due("to 1 and 7", x.whom(7, 1 << 1 | 1 << 7, NONE), 2);
        due("who to 1", x.whom(7, 1 << 1 | 1 << 7, 1), 0);
        due("who to 7", x.whom(7, 1 << 1 | 1 << 7, 7), 2);
        due("of like ones the lowest", x.whom(7, 1 << 3 | 1 << 5, 3), 1);
        due("then the next", x.whom(7, 1 << 3 | 1 << 5, 5), 2);
        due("all three", x.whom(7, 7, NONE), 2);
        due("no stretch, so no last one", x.whom(7, 0, NONE), NONE);
        due("nor anybody for one", x.whom(7, 0, 1), NONE);
        due("no stretch and nobody", x.whom(0, 0, NONE), NONE);
        due("nobody for a stretch", x.whom(0, 2, NONE), NONE);
        due("more stretches than people", x.whom(3, 7, NONE), NONE);
        due("one that can't be come to", x.whom(7, 1 << 8, NONE), NONE);
        due("nor who", x.whom(7, 1 << 8, 8), NONE);
        due("a stretch not of the set", x.whom(7, 2, 2), NONE);
        due("a stretch that isn't one", x.whom(7, 2, 9), NONE);
        due("stretch -2", x.whom(7, 2, -2), NONE);
        due("people that aren't", x.whom(8, 2, NONE), NONE);
        due("some that are", x.whom(9, 2, NONE), NONE);
        due("stretches that aren't", x.whom(7, 1 << 9, NONE), NONE);
        due("some that are", x.whom(7, 1 << 9 | 2, NONE), NONE);
        due("below 0", x.whom(-1, 2, NONE), NONE);
        due("below 0", x.whom(7, -1, NONE), NONE);
        x = row(8);
        x.person(0, false, false, 0);
        x.person(0, false, false, 3);
        x.person(0, false, false, 3);
        due("the last counts: 4 to 7", x.whom(7, 1 << 3 | 1 << 7, NONE), 4);
        due("so the lowest, not the nearest", x.whom(7, 1 << 3 | 1 << 7, 3), 0);
        due("then the next", x.whom(7, 1 << 3 | 1 << 7, 7), 1);
    }

    private static void promise28() {
        ElevenBullocks x = kinds(3, 0, 0, 1);
        x.stretch(2, 0);
        x.way(1, 4, false);
        x.way(2, 4, true);
        x.stray(1, 1);
        due("two gates, the lowest", x.home(0), 10);
        x.gate(3, false);
        due("one is shut", x.home(0), 2);
        x.gate(2, false);
        due("none is needed", x.home(0), 0);
        x.gate(0, false);
        due("no way home", x.home(0), NONE);
        due("home(1)", x.home(1), NONE);
        due("home(-1)", x.home(-1), NONE);
        x.undo();
        x.undo();
        x.undo();
        x.undo();
        x.stray(1, 3);
        due("in a garden", x.home(0), NONE);
        x.undo();
        x.stray(1, 0);
        due("at home", x.home(0), 1);
        due("nothing is shut", x.ofWay(0, 3), 1);
        // a lane with home and three gardens: three gates; with a second lane and one garden more, four
        ElevenBullocks y = new ElevenBullocks();
        for (int kind : new int[] {0, 3, 1, 1, 0, 1, 1}) {
            y.stretch(kind, 0);
        }
        y.way(0, 1, false);
        y.way(0, 2, false);
        y.way(0, 3, false);
        y.stray(1, 0);
        due("two", y.home(0), 6);
        y.way(2, 4, false);
        y.way(0, 5, false);
        due("three", y.home(0), 22);
        y.way(1, 6, false);
        due("four would be needed", y.home(0), NONE);
        y.by(tell(y, "takes if ahead=3 then 10 else 5 end;"));
        due("home is taken first, but a garden behind it", y.home(0), 32);
    }

    private static void promise29() {
        ElevenBullocks x = row(2);
        due("seen(2, 0)", x.seen(2, 0), -2);
        due("seen(-2, 0)", x.seen(-2, 0), -2);
        due("seen(0, -1)", x.seen(0, -1), -2);
        due("seen(0, 61)", x.seen(0, 61), -2);
        for (int i = 1; i <= 6; i++) {
            due("seen " + i, x.seen(i % 2, i * 10), i);
        }
        due("a seventh", x.seen(0, 0), -2);
        due("none any more", x.seen(NONE, 0), 0);
        due("about(10)", x.about(10), 0);
        due("anew", x.seen(1, 0), 1);
    }

    private static void promise30() {
        ElevenBullocks x = kinds(3, 0, 0, 0, 3, 3);
        due("none: no home but these", x.which(), 1 | 8);
        x.seen(1, 0);
        due("at its other side at 0", x.which(), 1);
        x.seen(3, 2);
        due("two ways in 2", x.which(), 1);
        x.gate(1, false);
        due("shut ones as well", x.which(), 1);
        x.seen(3, 1);
        due("too far for 1", x.which(), 0);
        x.seen(NONE, 0);
        x.seen(2, 1);
        due("from both sides", x.which(), 9);
        x.way(0, 2, true);
        x.seen(NONE, 0);
        x.seen(2, 0);
        due("no paths", x.which(), 0);
        x.stretch(0, 0);
        x.seen(NONE, 0);
        x.seen(6, 60);
        due("no way there", x.which(), 0);
    }

    private static void many(int m, int c, int k, long upper, long lower) {
        ElevenBullocks x = new ElevenBullocks();
        due("many(" + m + ", " + c + ", " + k + "), upper", x.many(m, c, k, false), upper);
        due("many(" + m + ", " + c + ", " + k + "), lower", x.many(m, c, k, true), lower);
    }

    private static void promise31() {
        many(0, 0, 0, 1, 1);
        many(0, 12, 12, 1, 1);
        many(0, 4, 5, 0, 1);
        many(3, 5, 4, 0, 1);
        many(5, 11, 11, 1, 7);
        many(9, 12, 12, 1, 1);
        // 10 counted, each overlooked with 1 of 10: 100 + 11 * 10 + 66 * 1
        many(1, 10, 10, 25, 69);
        many(1, 10, 11, 55, 138);
        many(1, 10, 12, 11, 46);
        many(5, 0, 12, 1, 8191);
        ElevenBullocks x = new ElevenBullocks();
        int[][] others = {{-1, 0, 0}, {10, 0, 0}, {0, -1, 0}, {0, 13, 0}, {0, 0, -1}, {0, 0, 13}};
        for (int[] o : others) {
            due("many(" + o[0] + ", " + o[1] + ", " + o[2] + ")", x.many(o[0], o[1], o[2], true), NONE);
        }
    }

    private static void promise32() {
        ElevenBullocks x = new ElevenBullocks();
        for (int i = 0; i < 8; i++) {
            x.stretch(1, i == 3 ? 0 : 1);
        }
        for (int i = 0; i < 6; i++) {
            x.way(i, i + 1, true);
        }
        x.person(0, false, false, 3);
        x.person(0, true, false, 3);
        due("no bunch", x.after(0, NONE), NONE);
        x.stray(2, 1);
        x.stray(2, 5);
        due("like ones: 2 * 2 + 2 * 6", x.after(0, NONE), 16);
        due("the lowest first", x.after(0, 0), 0);
        due("then", x.after(0, 1), 1);
        due("no third", x.after(0, 2), NONE);
        due("i -2", x.after(0, -2), NONE);
        due("on wheels: 2 * 1 + 2 * 3", x.after(1, NONE), 8);
        x.stray(9, 6);
        due("by 5 and 6 to 1", x.after(0, NONE), 2 * 2 + 9 * 3 + 2 * 8);
        due("5 first", x.after(0, 0), 1);
        due("then 6", x.after(0, 1), 2);
        due("1 last", x.after(0, 2), 0);
        x.stray(1, 7);
        due("one can't be come to", x.after(0, NONE), NONE);
        due("no order then", x.after(0, 0), NONE);
        due("after(2, 0)", x.after(2, 0), NONE);
        due("after(-1, 0)", x.after(-1, 0), NONE);
    }

    private static void promise33() {
        ElevenBullocks x = new ElevenBullocks();
        x.stretch(1, 33);
        x.stretch(2, 10);
        x.person(5, false, false, 0);
        x.stray(1, 0);
        x.stray(5, 1);
        x.minute(1);
        due("without", x.pays(0, NONE), 33);
        due("no such text", x.pays(0, 0), NONE);
        due("half, cut", x.pays(0, tell(x, "pays 50;")), 16);
        due("more than all", x.pays(0, tell(x, "pays 101;")), 33);
        due("less than none", x.pays(0, tell(x, "pays -1;")), 0);
        int names = tell(x, "pays size*99+place*20+kind*10+here*30+done/10;");
        due("names", x.pays(0, names), 33 * 43 / 100);
        due("names there", x.pays(1, names), 50 * 45 / 100);
        due("text 4", x.pays(0, 4), NONE);
        due("text -2", x.pays(0, -2), NONE);
        due("stretch 2", x.pays(2, NONE), NONE);
        due("stretch -1", x.pays(-1, NONE), NONE);
        x.back();
        x.stretch(1, 33);
        x.stray(1, 0);
        x.minute(1);
        x.by(tell(x, "pays 0;"));
        due("THE TEXT does not matter", x.pays(0, NONE), 33);
        due("a text without pays", x.pays(0, tell(x, "pace 2;")), 33);
    }

    private static void promise34() {
        ElevenBullocks x = new ElevenBullocks();
        due("nothing", x.cheapest(), NONE);
        x.stretch(1, 10);
        x.stretch(2, 10);
        x.stretch(1, 5);
        for (int s = 0; s < 3; s++) {
            x.stray(2, s);
        }
        x.minute(1);
        tell(x, "pays 100;");
        due("like ones: without", x.cheapest(), NONE);
        tell(x, "pays 60-kind*40+place*30;");
        due("gardens alone", x.cheapest(), 1);
        tell(x, "pays if kind=2 then 0 else 40 end;");
        due("20 of 20 and 80 of 10, or 40 of each", x.cheapest(), 1);
        tell(x, "pays if place=0 then 0 else 100 end;");
        due("like ones: the lowest", x.cheapest(), 3);
    }

    private static void promise35() {
        ElevenBullocks x = row(2);
        x.way(0, 1, true);
        int[][] others = {{-1, 0, 0, 0, 1}, {1, 0, 0, 0, 1}, {2, 0, 0, 0, 1}, {0, -1, 0, 0, 1}, {0, 11, 0, 0, 1},
            {0, 0, -1, 0, 1}, {0, 0, 1000, 0, 1}, {0, 0, 0, -1, 1}, {0, 0, 0, 1000, 1}, {0, 0, 0, 0, 0},
            {0, 0, 0, 0, 100}};
        for (int[] o : others) {
            due("mending of others", x.mending(o[0], o[1], o[2], o[3], o[4]), false);
        }
        due("nothing is told", x.saved(0), -10000);
        due("the least", x.mending(0, 0, 0, 0, 1), true);
        due("saved", x.saved(0), 0);
        due("the greatest", x.mending(0, 10, 999, 999, 99), true);
        due("told anew", x.saved(0), 999 * 99 - 999);
    }

    private static void promise36() {
        ElevenBullocks x = row(5);
        due("none was told", x.saved(NONE), NONE);
        due("it wasn't told", x.saved(0), -10000);
        due("saved(4)", x.saved(4), -10000);
        due("saved(-2)", x.saved(-2), -10000);
        x.mending(0, 1, 999, 0, 1);
        due("a loss", x.saved(0), -999);
        x.mending(1, 3, 0, 3, 1);
        due("cut", x.saved(1), 0);
        due("nothing is saved", x.saved(NONE), NONE);
        x.mending(3, 1, 1, 27, 1);
        due("cut, less p", x.saved(3), 1);
        due("best", x.saved(NONE), 3);
        x.mending(2, 10, 0, 1, 1);
        due("of like ones the lowest", x.saved(NONE), 2);
        x.mending(2, 10, 1, 1, 1);
        due("told anew", x.saved(NONE), 3);
    }

    private static void promise37() {
        ElevenBullocks x = new ElevenBullocks();
        due("tried(4)", x.tried(4, true), -2);
        due("tried(-2)", x.tried(-2, true), -2);
        for (int i = 1; i <= 12; i++) {
            due("tried " + i, x.tried(i % 4, i % 2 == 0), i);
        }
        due("a 13th", x.tried(0, true), -2);
        due("about(11)", x.about(11), 12);
        due("none any more", x.tried(NONE, true), 0);
        due("about(11)", x.about(11), 0);
        due("turned none", x.turned(0, true), NONE);
        due("anew", x.tried(3, false), 1);
    }

    private static void promise38() {
        ElevenBullocks x = new ElevenBullocks();
        due("turned(0)", x.turned(0, true), NONE);
        due("turned(-1)", x.turned(-1, true), NONE);
        due("turned(4)", x.turned(4, true), NONE);
        x.tried(3, false);
        due("none of one", x.turned(3, false), 0);
        due("in lowest terms", x.turned(3, true), 1);
        x.tried(3, false);
        due("none of two", x.turned(3, true), 1);
        x.tried(3, true);
        due("one", x.turned(3, false), 1);
        due("of three", x.turned(3, true), 3);
        x.tried(3, true);
        due("one", x.turned(3, false), 1);
        due("of two", x.turned(3, true), 2);
        due("another", x.turned(2, true), NONE);
    }

    private static void promise39() {
        ElevenBullocks x = new ElevenBullocks();
        due("none", x.best(), NONE);
        x.tried(3, false);
        due("none turned, but TRIED", x.best(), 3);
        x.tried(2, true);
        due("the greatest odds", x.best(), 2);
        x.tried(1, true);
        due("of like ones the lowest", x.best(), 1);
        x.tried(2, true);
        due("TRIED more often first", x.best(), 2);
        x.tried(0, true);
        x.tried(0, true);
        x.tried(0, false);
        due("two of three", x.best(), 2);
        x.tried(NONE, false);
        due("none any more", x.best(), NONE);
    }

    private static void promise40() {
        ElevenBullocks x = row(2);
        x.stray(3, 0);
        x.minute(7);
        due("image()", x.image(), 7);
        x.minute(2);
        due("back()", x.back(), 7);
        due("a new image", x.image(), 7);
        x.undo();
        due("image()", x.image(), 6);
        x.minute(5);
        due("the latest image", x.back(), 6);
    }

    private static void promise41() {
        ElevenBullocks x = row(3);
        x.person(3, false, false, 0);
        x.stray(5, 1);
        x.gate(0, false);
        x.seen(1, 4);
        x.tried(1, true);
        x.mending(1, 5, 1, 10, 10);
        x.by(tell(x, "pace 0;"));
        x.minute(2);
        x.feed(0x70616365, 0x20313b20, 0x20202020, 0x20202020, 0x20202020);
        due("image", x.image(), 2);
        x.stretch(2, 9);
        x.way(2, 3, false);
        x.way(0, 2, true);
        x.person(4, true, true, 3);
        x.gate(0, true);
        x.seen(0, 0);
        x.tried(1, false);
        x.mending(1, 0, 0, 0, 1);
        x.mending(2, 10, 0, 99, 9);
        due("the tape is a text", x.text(), 1);
        x.by(1);
        x.day(77, 9);
        x.feed(0, 0, 0, 0, 0);
        due("back", x.back(), 2);
        int[] about = {3, 2, 1, 2, 5, 0, 41, 1, 0, 4, 1, 1, 20};
        for (int i = 0; i < about.length; i++) {
            due("about(" + i + ")", x.about(i), about[i]);
        }
        due("gate", x.ofWay(0, 3), 0);
        due("saved", x.saved(1), 49);
        due("saved of none", x.saved(2), -10000);
        due("ways at 2", x.ofStretch(2, 3), 2);
        due("no path any more", x.soon(0, 2), 2);
        due("pace", x.bunch(0, 3), 0);
        due("turned", x.turned(1, true), 1);
        due("steps are there again", x.undo(), 3);
        due("minute", x.about(3), 1);
        x.undo();
        due("and again", x.undo(), 1);
        due("gate", x.ofWay(0, 3), 1);
        due("a way anew", x.way(2, 0, false), 2);
        due("its mending isn't told", x.saved(2), -10000);
        due("its gate is open", x.ofWay(2, 3), 1);
        due("the image stays", x.back(), 2);
        due("steps", x.about(9), 4);
    }

    private static void promise42() {
        ElevenBullocks x = row(4);
        x.person(1, false, false, 0);
        x.person(1, false, false, 0);
        x.stretch(0, 7);
        x.stray(5, 4);
        x.stray(6, 0);
        x.by(tell(x, "takes 0;"));
        tell(x, "");
        x.minute(3);
        x.seen(0, 1);
        x.tried(0, true);
        x.tried(0, true);
        x.feed(1, 2, 3, 4, 5);
        int[] about = {5, 3, 2, 3, 11, 105, 41, 2, 0, 5, 1, 2, 20};
        for (int i = 0; i < about.length; i++) {
            due("about(" + i + ")", x.about(i), about[i]);
        }
        due("about(13)", x.about(13), -2);
        due("about(-1)", x.about(-1), -2);
    }

    private static void all() {
        Runnable[] all = {PromisesTest::promise1, PromisesTest::promise2, PromisesTest::promise3,
            PromisesTest::promise4, PromisesTest::promise5, PromisesTest::promise6, PromisesTest::promise7,
            PromisesTest::promise8, PromisesTest::promise9, PromisesTest::promise10, PromisesTest::promise11,
            PromisesTest::promise12, PromisesTest::promise13, PromisesTest::promise14, PromisesTest::promise15,
            PromisesTest::promise16, PromisesTest::promise17, PromisesTest::promise18, PromisesTest::promise19,
            PromisesTest::promise20, PromisesTest::promise21, PromisesTest::promise22, PromisesTest::promise23,
            PromisesTest::promise24, PromisesTest::promise25, PromisesTest::promise26, PromisesTest::promise27,
            PromisesTest::promise28, PromisesTest::promise29, PromisesTest::promise30, PromisesTest::promise31,
            PromisesTest::promise32, PromisesTest::promise33, PromisesTest::promise34, PromisesTest::promise35,
            PromisesTest::promise36, PromisesTest::promise37, PromisesTest::promise38, PromisesTest::promise39,
            PromisesTest::promise40, PromisesTest::promise41, PromisesTest::promise42};
        for (Runnable one : all) {
            promise++;
            one.run();
        }
    }

    public static void main(String[] args) {
        all();
        System.out.println(wrong == 0 ? "all answers are as due" : wrong + " answers are not as due");
        if (wrong != 0) {
            System.exit(1);
        }
    }
}
