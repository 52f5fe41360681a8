import java.lang.management.ManagementFactory;
import java.util.Random;

/**
 * Calls with any arguments, in any state: none throws, none makes an object (all calls of a run live in one
 * room), and the dearest of them end soon.
 */
public final class RoomTest {
    private static final int[] EDGES = {Integer.MIN_VALUE, -10000, -3, -2, -1, 0, 1, 2, 3, 4, 5, 6, 9, 10, 11, 12, 13,
        15, 16, 17, 24, 25, 30, 31, 32, 33, 60, 61, 99, 100, 300, 999, 1000, 4095, 4096, 9999, 10000, 65535,
        Integer.MAX_VALUE};
    private static final Random R = new Random(5);

    private static int any() {
        return R.nextInt(3) == 0 ? EDGES[R.nextInt(EDGES.length)] : R.nextInt(14) - 1;
    }

    /** One call, whichever number it has. */
    private static long call(ElevenBullocks x, int which) {
        boolean f = R.nextBoolean();
        switch (which) {
            case 0: return x.stretch(any(), any());
            case 1: return x.way(any(), any(), f);
            case 2: return x.person(any(), f, R.nextBoolean(), any());
            case 3: return x.feed(R.nextInt(), any(), any(), R.nextInt(), any());
            case 4: return x.end(any());
            case 5: return x.text();
            case 6: return x.fault(any());
            case 7: return x.by(any()) ? 1 : 0;
            case 8: return x.stray(any(), any());
            case 9: return x.minute(any());
            case 10: return x.send(any(), any()) ? 1 : 0;
            case 11: return x.gate(any(), f) ? 1 : 0;
            case 12: return x.split(any(), any());
            case 13: return x.played(any());
            case 14: return x.day(any(), any());
            case 15: return x.undo();
            case 16: return x.bunch(any(), any());
            case 17: return x.ofPerson(any(), any());
            case 18: return x.ofStretch(any(), any());
            case 19: return x.ofWay(any(), any());
            case 20: return x.takes(any(), any());
            case 21: return x.where(any(), any(), any(), f);
            case 22: return x.canCome(any());
            case 23: return x.stopped(any(), any());
            case 24: return x.soon(any(), any());
            case 25: return x.whom(any(), any(), any());
            case 26: return x.home(any());
            case 27: return x.seen(any(), any());
            case 28: return x.which();
            case 29: return x.many(any(), any(), any(), f);
            case 30: return x.after(any(), any());
            case 31: return x.pays(any(), any());
            case 32: return x.cheapest();
            case 33: return x.mending(any(), any(), any(), any(), any()) ? 1 : 0;
            case 34: return x.saved(any());
            case 35: return x.tried(any(), f);
            case 36: return x.turned(any(), f);
            case 37: return x.best();
            case 38: return x.image();
            case 39: return R.nextInt(9) == 0 ? x.back() : 0;
            default: return x.about(any());
        }
    }

    private static long made() {
        return ((com.sun.management.ThreadMXBean) ManagementFactory.getThreadMXBean()).getCurrentThreadAllocatedBytes();
    }

    /** What one new object takes, in bytes of this machine: some hundred objects, six thousand elements. */
    private static long sizeOfOne() {
        long before = made();
        ElevenBullocks x = new ElevenBullocks();
        long after = made();
        return x.about(0) + after - before;
    }

    private static ElevenBullocks fullOne() {
        ElevenBullocks x = new ElevenBullocks();
        for (int i = 0; i < 12; i++) {
            x.stretch(i == 11 ? 2 : 0, 9);
        }
        int[] ends = {0, 1, 1, 2, 2, 3, 3, 4, 4, 5, 5, 6, 6, 7, 7, 8, 8, 9, 9, 10, 10, 11, 0, 2, 1, 3, 4, 6, 5, 7, 8, 10};
        for (int i = 0; i < ends.length; i += 2) {
            x.way(ends[i], ends[i + 1], false);
        }
        for (int i = 0; i < 6; i++) {
            x.person(i, i % 2 == 0, i % 3 == 0, i);
        }
        x.stray(6, 0);
        x.stray(6, 3);
        x.stray(6, 6);
        x.stray(6, 9);
        x.by(Texts.tell(x, "takes let a be stood*2 in if a>6 or back=1 and size<4 then 2 else 3+way-way/4*4 end end;"
            + "pace 2;pays let x be done in x-x/2 end;"));
        return x;
    }

    private static long dearOnes(ElevenBullocks x) {
        return x.stopped(0, 0) + x.home(0) + x.where(0, 4, 3, true) + x.whom(63, 63, -1) + x.after(0, -1) + x.which()
            + x.minute(1) + x.day(7, 30) + x.image() + x.back() + x.cheapest() + x.canCome(3) + x.undo();
    }

    public static void main(String[] args) {
        boolean wrong = false;
        for (int run = 0; run < 3000; run++) {
            ElevenBullocks x = run % 2 == 0 ? new ElevenBullocks() : fullOne();
            for (int i = 0; i < 512; i++) {
                call(x, R.nextInt(41));
            }
        }
        made();
        ElevenBullocks full = fullOne();
        dearOnes(full);
        long before = made();
        for (int i = 0; i < 20; i++) {
            dearOnes(full);
        }
        for (int i = 0; i < 512; i++) {
            call(full, R.nextInt(41));
        }
        long more = made() - before;
        if (more > 2000) {
            wrong = true;
            System.out.println("the calls made " + more + " bytes of objects");
        }
        long one = sizeOfOne();
        if (one > 60000) {
            wrong = true;
            System.out.println("an object takes " + one + " bytes");
        }
        System.out.println(wrong ? "the room is too small" : "no call throws, none makes an object");
        if (wrong) {
            System.exit(1);
        }
    }
}
