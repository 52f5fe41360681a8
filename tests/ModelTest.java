import java.util.ArrayList;
import java.util.List;
import java.util.Random;

/** Drawn runs of calls on the class and on the model beside it: each answer must be the same. */
public final class ModelTest {
    private static int wrong;
    private final ElevenBullocks x = new ElevenBullocks();
    private final Model m = new Model();
    private final Random r;
    private final int run;
    private final List<String> told = new ArrayList<>();
    private int calls;

    private ModelTest(int run) {
        this.run = run;
        this.r = new Random(run * 7919L + 1);
    }

    private void same(String call, long got, long want) {
        calls++;
        told.add(call + " = " + got);
        if (got != want && wrong++ < 5) {
            System.out.println("run " + run + ": " + call + " answered " + got + ", the model says " + want);
            for (String line : told) {
                System.out.println("    " + line);
            }
        }
    }

    private static long n(boolean b) {
        return b ? 1 : 0;
    }

    /** Mostly within 0 .. most, now and then just outside or far from it. */
    private int num(int most) {
        int pick = r.nextInt(40);
        if (pick == 0) {
            return most + 1;
        }
        if (pick == 1) {
            return -1 - r.nextInt(2);
        }
        if (pick == 2) {
            return r.nextInt();
        }
        return most < 0 ? 0 : r.nextInt(most + 1);
    }

    private int bunchNum() {
        int b = num(3);
        for (int tries = 0; tries < 9 && !m.isBunch(b); tries++) {
            b = num(3);
        }
        return b;
    }

    private int stretchNum() {
        return num(m.a.stretches.size() - 1);
    }

    private int wayNum() {
        return num(m.a.ways.size() - 1);
    }

    private int personNum() {
        return num(m.a.people.size() - 1);
    }

    private void stretch() {
        int k = r.nextInt(3) == 0 ? 0 : num(3);
        int h = num(r.nextBoolean() ? 99 : 9);
        same("stretch(" + k + ", " + h + ")", x.stretch(k, h), m.stretch(k, h));
    }

    private void way() {
        int a = stretchNum();
        int b = stretchNum();
        boolean p = r.nextInt(5) == 0;
        same("way(" + a + ", " + b + ", " + p + ")", x.way(a, b, p), m.way(a, b, p));
    }

    private void person() {
        int k = num(9);
        boolean w = r.nextBoolean();
        boolean b = r.nextBoolean();
        int at = stretchNum();
        same("person(" + k + ", " + w + ", " + b + ", " + at + ")", x.person(k, w, b, at), m.person(k, w, b, at));
    }

    private void text(boolean spoilt) {
        tell(Texts.drawn(r, spoilt));
    }

    private void tell(String text) {
        same("end(0)", x.end(0), m.end(0));
        int[] w = Texts.words(text);
        for (int i = 0; i < w.length; i += 5) {
            same("feed(" + w[i] + ", ..)", x.feed(w[i], w[i + 1], w[i + 2], w[i + 3], w[i + 4]),
                m.feed(w[i], w[i + 1], w[i + 2], w[i + 3], w[i + 4]));
        }
        same("end(" + text.length() + ")", x.end(text.length()), m.end(text.length()));
        same("text() of " + text, x.text(), m.text());
        same("fault(0)", x.fault(0), m.fault(0));
        same("fault(1)", x.fault(1), m.fault(1));
        same("about(12)", x.about(12), m.about(12));
    }

    private void change() {
        int a;
        int b;
        boolean f = r.nextBoolean();
        switch (r.nextInt(17)) {
            case 0: stretch(); break;
            case 1: way(); break;
            case 2: person(); break;
            case 3: text(r.nextInt(3) == 0); break;
            case 4: a = num(m.a.texts.size()) - 1; same("by(" + a + ")", n(x.by(a)), n(m.by(a))); break;
            case 5: case 6:
                a = 1 + num(r.nextBoolean() ? 23 : 5);
                b = stretchNum();
                same("stray(" + a + ", " + b + ")", x.stray(a, b), m.stray(a, b));
                break;
            case 7: case 8:
                a = r.nextInt(6) == 0 ? num(61) : 1 + r.nextInt(3);
                same("minute(" + a + ")", x.minute(a), m.minute(a));
                break;
            case 9:
                a = personNum();
                b = num(m.a.stretches.size()) - 1;
                same("send(" + a + ", " + b + ")", n(x.send(a, b)), n(m.send(a, b)));
                break;
            case 10: a = wayNum(); same("gate(" + a + ", " + f + ")", n(x.gate(a, f)), n(m.gate(a, f))); break;
            case 11:
                a = bunchNum();
                b = num(6);
                same("split(" + a + ", " + b + ")", x.split(a, b), m.split(a, b));
                break;
            case 12:
                a = num(m.a.texts.size() - 1);
                same("played(" + a + ")", x.played(a), m.played(a));
                break;
            case 13:
                a = num(9999);
                b = num(30);
                same("day(" + a + ", " + b + ")", x.day(a, b), m.day(a, b));
                break;
            case 14:
                for (int i = r.nextInt(r.nextInt(12) == 0 ? 35 : 2); i >= 0; i--) {
                    same("undo()", x.undo(), m.undo());
                }
                break;
            case 15: note(f); break;
            default:
                if (r.nextInt(3) == 0) {
                    same("image()", x.image(), m.image());
                } else if (r.nextInt(6) == 0) {
                    same("back()", x.back(), m.back());
                }
                break;
        }
    }

    private void note(boolean f) {
        int a;
        int b;
        switch (r.nextInt(3)) {
            case 0:
                a = num(m.a.stretches.size() * 3) % 13 - (r.nextInt(9) == 0 ? 1 : 0);
                b = num(r.nextBoolean() ? 60 : 4);
                same("seen(" + a + ", " + b + ")", x.seen(a, b), m.seen(a, b));
                break;
            case 1:
                a = wayNum();
                int o = num(10);
                int p = num(999);
                int h = num(999);
                b = num(99);
                same("mending(" + a + ", " + o + ", " + p + ", " + h + ", " + b + ")", n(x.mending(a, o, p, h, b)),
                    n(m.mending(a, o, p, h, b)));
                break;
            default:
                a = num(3);
                same("tried(" + a + ", " + f + ")", x.tried(a, f), m.tried(a, f));
                break;
        }
    }

    private void askOne() {
        int a = bunchNum();
        int b;
        int c;
        boolean f = r.nextBoolean();
        switch (r.nextInt(19)) {
            case 0: case 16: case 17:
                b = num(4);
                c = stretchNum();
                same("where(" + a + ", " + b + ", " + c + ", " + f + ")", x.where(a, b, c, f), m.where(a, b, c, f));
                break;
            case 1: same("canCome(" + a + ")", x.canCome(a), m.canCome(a)); break;
            case 2: case 15: b = num(9); same("stopped(" + a + ", " + b + ")", x.stopped(a, b), m.stopped(a, b)); break;
            case 3:
                b = personNum();
                c = stretchNum();
                same("soon(" + b + ", " + c + ")", x.soon(b, c), m.soon(b, c));
                break;
            case 4: askWhom(); break;
            case 5: same("home(" + a + ")", x.home(a), m.home(a)); break;
            case 6: same("which()", x.which(), m.which()); break;
            case 7:
                a = num(9);
                b = num(12);
                c = num(12);
                same("many(" + a + ", " + b + ", " + c + ", " + f + ")", x.many(a, b, c, f), m.many(a, b, c, f));
                break;
            case 8:
                b = personNum();
                for (c = -1; c < 5; c++) {
                    same("after(" + b + ", " + c + ")", x.after(b, c), m.after(b, c));
                }
                break;
            case 9:
                b = stretchNum();
                c = num(m.a.texts.size()) - 1;
                same("pays(" + b + ", " + c + ")", x.pays(b, c), m.pays(b, c));
                break;
            case 10: same("cheapest()", x.cheapest(), m.cheapest()); break;
            case 11: b = num(16) - 1; same("saved(" + b + ")", x.saved(b), m.saved(b)); break;
            case 12: b = num(3); same("turned(" + b + ", " + f + ")", x.turned(b, f), m.turned(b, f)); break;
            case 13: same("best()", x.best(), m.best()); break;
            case 14: same("home(" + a + ")", x.home(a), m.home(a)); break;
            default: b = nearWay(a); same("takes(" + a + ", " + b + ")", x.takes(a, b), m.takes(a, b)); break;
        }
    }

    private int nearWay(int bunch) {
        int w = wayNum();
        for (int tries = 0; tries < 9 && m.takes(bunch, w) == Model.NONE; tries++) {
            w = wayNum();
        }
        return w;
    }

    private void askWhom() {
        int people = r.nextInt(10) == 0 ? r.nextInt() : r.nextInt(1 << m.a.people.size());
        int stretches = r.nextInt(10) == 0 ? r.nextInt() : r.nextInt(1 << m.a.stretches.size());
        for (int tries = 0; tries < 8 && Integer.bitCount(stretches) > Integer.bitCount(people); tries++) {
            stretches &= r.nextInt();
        }
        for (int c = -2; c < 13; c++) {
            same("whom(" + people + ", " + stretches + ", " + c + ")", x.whom(people, stretches, c),
                m.whom(people, stretches, c));
        }
    }

    /** All that tells how things stand. */
    private void look() {
        for (int i = -1; i < 14; i++) {
            same("about(" + i + ")", x.about(i), m.about(i));
        }
        for (int what = -1; what < 6; what++) {
            int b = bunchNum();
            int p = personNum();
            int s = stretchNum();
            int w = wayNum();
            same("bunch(" + b + ", " + what + ")", x.bunch(b, what), m.bunch(b, what));
            same("ofPerson(" + p + ", " + what + ")", x.ofPerson(p, what), m.ofPerson(p, what));
            same("ofStretch(" + s + ", " + what + ")", x.ofStretch(s, what), m.ofStretch(s, what));
            same("ofWay(" + w + ", " + what + ")", x.ofWay(w, what), m.ofWay(w, what));
        }
    }

    /** Near the last minute, with as much harm as can be: where few drawn runs would come to. */
    private void goLate() {
        int at = stretchNum();
        int n = r.nextBoolean() ? 24 : 1 + r.nextInt(24);
        same("stray(" + n + ", " + at + ")", x.stray(n, at), m.stray(n, at));
        for (int i = 0; i < 16; i++) {
            same("minute(60)", x.minute(60), m.minute(60));
        }
        int more = 30 + r.nextInt(10);
        same("minute(" + more + ")", x.minute(more), m.minute(more));
    }

    /** A law that has a word of its own for each way, side and stand of people, so that no two can be mixed up. */
    private String lawOfAll() {
        return "takes let m be way * " + r.nextInt(13) + " + place * " + r.nextInt(13) + " + back * " + r.nextInt(13)
            + " + here * " + r.nextInt(13) + " + stood * " + r.nextInt(13) + " in m - m / 13 * 13 - " + r.nextInt(8)
            + " end;";
    }

    /** As much land as there can be, and all that is asked about where a bunch can come to. */
    private void goFar() {
        for (int i = 0; i < 12; i++) {
            stretch();
        }
        for (int i = 0; i < 40; i++) {
            way();
        }
        for (int i = 0; i < 6; i++) {
            person();
        }
        tell(lawOfAll());
        same("by(0)", n(x.by(0)), n(m.by(0)));
        while (calls < 512 - 60 && wrong == 0) {
            int at = stretchNum();
            same("stray(3, " + at + ")", x.stray(3, at), m.stray(3, at));
            same("minute(1)", x.minute(1), m.minute(1));
            for (int i = 0; i < 12; i++) {
                askFar(bunchNum());
            }
            int way = wayNum();
            boolean open = r.nextBoolean();
            same("gate(" + way + ", " + open + ")", n(x.gate(way, open)), n(m.gate(way, open)));
        }
    }

    private void askFar(int b) {
        int n = r.nextInt(10);
        int moves = 1 + r.nextInt(4);
        int to = stretchNum();
        same("canCome(" + b + ")", x.canCome(b), m.canCome(b));
        same("stopped(" + b + ", " + n + ")", x.stopped(b, n), m.stopped(b, n));
        same("home(" + b + ")", x.home(b), m.home(b));
        same("where(" + b + ", " + moves + ", " + to + ", true)", x.where(b, moves, to, true),
            m.where(b, moves, to, true));
    }

    private void go() {
        int most = 2 + r.nextInt(12);
        for (int i = 0; i < most; i++) {
            stretch();
        }
        int ways = r.nextInt(24);
        for (int i = 0; i < ways; i++) {
            way();
        }
        for (int i = r.nextInt(8); i > 0; i--) {
            person();
        }
        if (r.nextInt(3) > 0) {
            text(false);
            same("by(0)", n(x.by(0)), n(m.by(0)));
        }
        if (r.nextInt(4) > 0) {
            same("image()", x.image(), m.image());
        }
        if (r.nextInt(5) == 0) {
            goLate();
        }
        while (calls < 512 - 60 && wrong == 0) {
            change();
            if (r.nextBoolean()) {
                askOne();
            }
            if (r.nextInt(12) == 0 && calls < 400) {
                look();
            }
        }
    }

    public static void main(String[] args) {
        int from = args.length > 0 ? Integer.parseInt(args[0]) : 0;
        int runs = args.length > 1 ? Integer.parseInt(args[1]) : 3000;
        for (int run = from; run < from + runs && wrong == 0; run++) {
            ModelTest test = new ModelTest(run);
            if (run % 100 == 99) {
                test.goFar();
            } else {
                test.go();
            }
        }
        System.out.println(wrong == 0 ? "all answers are as the model's" : wrong + " answers are not the model's");
        if (wrong != 0) {
            System.exit(1);
        }
    }
}
