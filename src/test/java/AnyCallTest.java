import java.lang.management.ManagementFactory;
import java.util.Random;

/**
 * Any arguments in any state: no call throws, each ends, the same calls have the same answers, and no call makes
 * objects.
 */
public final class AnyCallTest {
    private static final int[] EDGES = {
        Integer.MIN_VALUE, Integer.MIN_VALUE + 1, -2001, -401, -129, -33, -32, -8, -7, -2, -1, 0, 1, 2, 3, 6, 7, 8, 9,
        10, 11, 12, 13, 16, 17, 20, 23, 24, 26, 27, 31, 32, 33, 79, 80, 81, 100, 101, 127, 128, 255, 256, 399, 400,
        401, 1999, 2000, 2001, 65536, Integer.MAX_VALUE - 1, Integer.MAX_VALUE
    };
    private static final long ROOM = 64 * 1024;

    private AnyCallTest() {
    }

    public static void main(String[] args) {
        Check check = new Check();
        for (int seed = 0; seed < 3000; seed++) {
            check.in("seed " + seed);
            PrizeDesk one = new PrizeDesk();
            PrizeDesk other = new PrizeDesk();
            Random random = new Random(seed);
            for (int i = 0; i < 512; i++) {
                int[] a = {random.nextInt(21), any(random), any(random), any(random), any(random), any(random)};
                check.due("kind " + a[0] + " of call " + i, answer(one, a), answer(other, a));
            }
        }
        thrift(check);
        check.end();
    }

    private static int any(Random random) {
        int kind = random.nextInt(20);
        if (kind == 0) {
            return random.nextInt();
        }
        return kind < 8 ? random.nextInt(8) : EDGES[random.nextInt(EDGES.length)];
    }

    private static int asInt(boolean yes) {
        return yes ? 1 : 0;
    }

    private static int answer(PrizeDesk x, int[] a) {
        switch (a[0]) {
            case 0:
                return x.feed(a[1], a[2], a[3], a[4], a[5]);
            case 1:
                return x.rules(a[1]);
            case 2:
                return x.rule(a[1]);
            case 3:
                return x.book(a[1], a[2], a[3]);
            case 4:
                return asInt(x.call(a[1]));
            case 5:
                return asInt(x.withdraw(a[1]));
            case 6:
                return asInt(x.kin(a[1], a[2]));
            case 7:
                return asInt(x.friend(a[1], a[2]));
            case 8:
                return x.load();
            case 9:
                return asInt(x.mark(a[1], a[2], a[3]));
            case 10:
                return x.met(a[1], a[2], a[3]);
            case 11:
                return x.third(a[1]);
            case 12:
                return asInt(x.ballot(a[1], a[2], a[3], a[4]));
            case 13:
                return asInt(x.close(a[1], a[2]));
            case 14:
                return asInt(x.telling(a[1], a[2]));
            case 15:
                return x.told(a[1], a[2], a[3], a[4]);
            case 16:
                return x.counted(a[1], a[2], a[3]);
            case 17:
                return x.worth(a[1], a[2], a[3]);
            case 18:
                return x.paradox(a[1], a[2]);
            case 19:
                return x.look(a[1], a[2]);
            default:
                return x.count(a[1]);
        }
    }

    /** All that can be asked, drawn together to one number. */
    private static long picture(PrizeDesk x) {
        long all = x.load();
        for (int what = 0; what < 12; what++) {
            all = all * 31 + x.count(what);
            all = all * 31 + x.third(what);
            for (int list = 0; list < 3; list++) {
                all = all * 31 + x.told(0, 0, list, what);
                all = all * 31 + x.told(7, 33 * what, list, 0);
            }
        }
        for (int letter = 0; letter < 256; letter++) {
            all = all * 31 + x.rule(letter);
        }
        for (int b = 0; b < 24; b++) {
            for (int what = 0; what < 27; what++) {
                all = all * 31 + x.look(b, what);
            }
            for (int kind = 0; kind < 3; kind++) {
                all = all * 31 + x.worth(0, kind, b);
                all = all * 31 + x.worth(1, kind, b);
            }
        }
        for (int pair = 0; pair < 49; pair++) {
            for (int what = 0; what < 3; what++) {
                all = all * 31 + x.met(pair / 7, pair % 7, what);
            }
        }
        return all;
    }

    private static PrizeDesk fullDesk() {
        PrizeDesk x = new PrizeDesk();
        for (int b = 0; b < 24; b++) {
            x.book(b % 8, 100, 1);
        }
        for (int b = 0; b < 24; b++) {
            x.mark(b % 7, b, b);
            x.mark((b + 1) % 7, b, 3 * b);
        }
        for (int j = 0; j < 7; j++) {
            x.feed(0x17161514, 0x13121110, 0x0F0E0D0C, 0, 0);
            x.ballot(j, 0, 100 + j, 12 - j);
            x.feed(0x13121110, 0x17161514, 0x0F0E0D0C, 0, 0);
            x.ballot(j, 1, 100 + j, 5 + j);
        }
        return x;
    }

    /** The room of a run is counted: whatever is asked, the rows of the object are used again. */
    private static void thrift(Check check) {
        check.in("thrift");
        if (!(ManagementFactory.getThreadMXBean() instanceof com.sun.management.ThreadMXBean threads)) {
            return;
        }
        PrizeDesk x = fullDesk();
        picture(x);
        long id = Thread.currentThread().getId();
        threads.getThreadAllocatedBytes(id);
        long before = threads.getThreadAllocatedBytes(id);
        for (int i = 0; i < 20; i++) {
            picture(x);
        }
        long made = threads.getThreadAllocatedBytes(id) - before;
        check.due("bytes made by calls, beyond the room: " + made, made > ROOM, false);
    }
}
