import java.util.stream.IntStream;

/** Desks to test on, and runs of calls that many tests need; a helper of the tests. */
final class Desks {
    private static final int NONE = -1;

    private Desks() {
    }

    /** Behind what the tape has; twenty bytes if there are none to put. */
    static void put(PrizeDesk x, int... bytes) {
        for (int from = 0; from == 0 || from < bytes.length; from += 20) {
            int[] words = new int[5];
            for (int i = 0; i < 20 && from + i < bytes.length; i++) {
                words[i / 4] |= bytes[from + i] << 24 - i % 4 * 8;
            }
            x.feed(words[0], words[1], words[2], words[3], words[4]);
        }
    }

    static void put(PrizeDesk x, String text) {
        put(x, text.chars().toArray());
    }

    static int tell(PrizeDesk x, String text) {
        put(x, text);
        return x.rules(text.length());
    }

    static boolean vote(PrizeDesk x, int j, int stage, int... books) {
        return voteOn(x, 10, j, stage, books);
    }

    static boolean voteOn(PrizeDesk x, int day, int j, int stage, int... books) {
        put(x, books);
        return x.ballot(j, stage, day, books.length);
    }

    /** Books of different publishers as far as there are any, all of them in. */
    static PrizeDesk with(int books) {
        PrizeDesk x = new PrizeDesk();
        for (int b = 0; b < books; b++) {
            x.book(b % 8, 100, 10);
        }
        return x;
    }

    /** As above, and all on the longlist if it is long enough. */
    static PrizeDesk withMarked(int books) {
        PrizeDesk x = with(books);
        for (int b = 0; b < books; b++) {
            x.mark(6, b, 50);
        }
        return x;
    }

    /** Books of one publisher. */
    static PrizeDesk withBooksOf(int publisher, int books) {
        PrizeDesk x = new PrizeDesk();
        for (int b = 0; b < books; b++) {
            x.book(publisher, 100, 10);
        }
        return x;
    }

    /** Ballots for the shortlist by which 0 has most points, 2 wins by pairs, and 1 is left by rounds. */
    static PrizeDesk withThreeWinners() {
        PrizeDesk x = withMarked(4);
        vote(x, 1, 0, 2, 0);
        vote(x, 2, 0, 1);
        vote(x, 3, 0, 2, 0);
        vote(x, 4, 0, 0);
        vote(x, 5, 0, 1);
        return x;
    }

    /**
     * A desk on which each kind of thing has been told, with these bytes on its tape. Of each stage there are
     * ballots on the day of its close and on the next one, so that another close can be seen.
     */
    static PrizeDesk busy(int... bytes) {
        PrizeDesk x = with(12);
        tell(x, "l9;s5;d20;b1;r3;v1;c1");
        for (int b = 0; b < 12; b++) {
            x.mark(b % 7, b, 5 * b);
            x.mark((b + 3) % 7, b, 60 - 2 * b);
        }
        x.call(8);
        x.call(9);
        x.withdraw(3);
        x.kin(2, 1);
        x.friend(4, 5);
        x.close(0, 150);
        x.close(1, 250);
        for (int j = 0; j < 7; j++) {
            voteOn(x, 148 + j, j, 0, (j + 1) % 12, (j + 5) % 12, (j + 2) % 12);
            voteOn(x, 248 + j, j, 1, (j + 4) % 12, j, (j + 6) % 12);
        }
        x.telling(0, 100);
        x.telling(1, 200);
        x.telling(2, 300);
        if (bytes.length > 0) {
            put(x, bytes);
        }
        return x;
    }

    /** Numbers outside a range: next to it, far off, and such as are like one within it in their lowest bits. */
    static int[] outside(int least, int greatest) {
        int[] tries = {
            least - 1, greatest + 1, least - 32, least + 32, greatest - 32, greatest + 32, least - 64, greatest + 64,
            least - 256, least + 256, greatest - 256, greatest + 256, least - 65536, greatest + 65536,
            Integer.MIN_VALUE, Integer.MIN_VALUE + least, Integer.MAX_VALUE, least + (1 << 24), greatest + (1 << 28)
        };
        return IntStream.of(tries).filter(n -> n < least || n > greatest).toArray();
    }

    static void order(Check check, PrizeDesk x, int stage, int kind, int... books) {
        for (int i = 0; i < books.length; i++) {
            check.due("counted(" + stage + ", " + kind + ", " + i + ")", x.counted(stage, kind, i), books[i]);
        }
        check.due("counted behind the end", x.counted(stage, kind, books.length), NONE);
    }

    /** As the chair is told it. */
    static void list(Check check, PrizeDesk x, int list, int... books) {
        if (list < 2) {
            check.due("count(" + (3 + list) + ")", x.count(3 + list), books.length);
        }
        for (int i = 0; i < books.length; i++) {
            check.due("told(0, 0, " + list + ", " + i + ")", x.told(0, 0, list, i), books[i]);
        }
        check.due("told behind the end", x.told(0, 0, list, books.length), NONE);
    }
}
