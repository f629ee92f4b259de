import java.util.stream.IntStream;

/** Ballots, counts and their ties, promises 14, 15 and 18 to 20: for each sentence a test of its own. */
public final class VotesEdgeTest {
    private static final int NONE = -1;
    private static final int[] TWELVE = IntStream.range(0, 12).toArray();
    private static final Check CHECK = new Check();

    private VotesEdgeTest() {
    }

    public static void main(String[] args) {
        ballotDays();
        ballotFromTape();
        ballotNoSuchOnes();
        ballotSizes();
        ballotTapeTooShort();
        ballotNoSuchBooks();
        ballotOneTwice();
        oneForEachStage();
        laterTold();
        countsByDay();
        closePromise();
        closeRefused();
        onlyOfTheList();
        barredPassedOver();
        asThingsAre();
        ordersAll();
        tiesByChair();
        tiesByNumber();
        points();
        beats();
        beatsOnAndOff();
        score();
        paradoxRow();
        roundsShare();
        roundsFewest();
        roundsOrder();
        shortlist();
        winner();
        countedKinds();
        countedOutside();
        worthOfKinds();
        worthOfRounds();
        worthOutside();
        paradoxPromise();
        paradoxNone();
        CHECK.end();
    }

    private static void due(String call, long got, long want) {
        CHECK.due(call, got, want);
    }

    private static void due(String call, boolean got, boolean want) {
        CHECK.due(call, got, want);
    }

    private static void order(PrizeDesk x, int stage, int kind, int... books) {
        Desks.order(CHECK, x, stage, kind, books);
    }

    private static void worths(PrizeDesk x, int stage, int kind, int... want) {
        for (int b = 0; b < want.length; b++) {
            due("worth(" + stage + ", " + kind + ", " + b + ")", x.worth(stage, kind, b), want[b]);
        }
    }

    /** So many books, all on the longlist and on the shortlist. */
    private static PrizeDesk wide(int books) {
        PrizeDesk x = Desks.withMarked(books);
        Desks.tell(x, "l12;s12");
        return x;
    }

    private static void ballotDays() {
        CHECK.sentence("A BALLOT of a JUDGE for a STAGE on a DAY (0 to 400):");
        for (int stage = 0; stage < 2; stage++) {
            PrizeDesk x = wide(2);
            for (int j = 0; j < 7; j++) {
                for (int day : new int[] {0, 1, 399, 400}) {
                    due("on " + day, Desks.voteOn(x, day, j, stage, 1), true);
                }
                due("ballots", x.count(10 + stage), j + 1);
                due("of the other stage", x.count(11 - stage), 0);
                due("points", x.worth(stage, 0, 1), 2 * (j + 1));
                due("on -1", Desks.voteOn(x, -1, j, stage, 0), false);
                x.rules(0);
                due("on 401", Desks.voteOn(x, 401, j, stage, 0), false);
                x.rules(0);
            }
            due("points of 0", x.worth(stage, 0, 0), 0);
        }
    }

    private static void ballotFromTape() {
        CHECK.sentence("its n BOOKS are the first n bytes of the tape, as numbers (the tape is empty then): true;");
        for (int n = 0; n <= 12; n++) {
            PrizeDesk x = wide(12);
            Desks.vote(x, 4, 0, 11, 10);
            Desks.put(x, TWELVE);
            Desks.put(x, TWELVE);
            due("ballot of " + n, x.ballot(4, 0, 10, n), true);
            due("the tape is empty", x.count(5), 0);
            for (int b = 0; b < 12; b++) {
                due(b + " of " + n, x.worth(0, 0, b), b < n ? 12 - b : 0);
            }
        }
        PrizeDesk y = wide(24);
        for (int b = 0; b < 12; b++) {
            y.withdraw(b);
        }
        due("the greatest numbers", Desks.vote(y, 0, 0, 23, 12), true);
        due("23", y.worth(0, 0, 23), 12);
        due("12", y.worth(0, 0, 12), 11);
        due("digits are no numbers", Desks.vote(y, 0, 0, '1'), false);
        y.feed(0x17161514, 0x13121110, 0x0F0E0D0C, -1, -1);
        y.feed(-1, -1, -1, -1, -1);
        due("what is behind them is not read", y.ballot(0, 0, 10, 12), true);
        due("but gone, too", y.count(5), 0);
        order(y, 0, 0, 23, 22, 21, 20, 19, 18, 17, 16, 15, 14, 13, 12);
    }

    private static void ballotNoSuchOnes() {
        CHECK.sentence("(the tape is empty then): true; false: no such ones,");
        PrizeDesk x = wide(3);
        Desks.vote(x, 0, 0, 2);
        Desks.vote(x, 6, 1, 2);
        Desks.put(x, 1, 0);
        for (int j : Desks.outside(0, 6)) {
            due("judge " + j, x.ballot(j, 0, 10, 1), false);
        }
        for (int stage : Desks.outside(0, 1)) {
            due("stage " + stage, x.ballot(0, stage, 10, 1), false);
        }
        for (int day : Desks.outside(0, 400)) {
            due("day " + day, x.ballot(0, 0, day, 1), false);
        }
        due("the tape stays", x.count(5), 20);
        worths(x, 0, 0, 0, 0, 3);
        worths(x, 1, 0, 0, 0, 3);
        due("the same bytes", x.ballot(0, 0, 10, 2), true);
        worths(x, 0, 0, 2, 3, 0);
    }

    private static void ballotSizes() {
        CHECK.sentence("n not 0 to 12,");
        PrizeDesk x = wide(24);
        Desks.vote(x, 0, 0, 5);
        Desks.put(x, IntStream.range(0, 20).toArray());
        for (int n : Desks.outside(0, 12)) {
            due("n " + n, x.ballot(0, 0, 10, n), false);
        }
        due("n 13", x.ballot(0, 0, 10, 13), false);
        due("n 20", x.ballot(0, 0, 10, 20), false);
        due("the tape stays", x.count(5), 20);
        due("the former stays", x.worth(0, 0, 5), 12);
        due("n 12", x.ballot(0, 0, 10, 12), true);
        due("the first of twelve", x.worth(0, 0, 0), 12);
        due("the last of twelve", x.worth(0, 0, 11), 1);
        due("n 0", x.ballot(0, 0, 10, 0), true);
        due("none of none", x.worth(0, 0, 0), 0);
        due("counts", x.count(10), 1);
    }

    private static void ballotTapeTooShort() {
        CHECK.sentence("it has not so many (the tape stays by all these),");
        PrizeDesk x = wide(3);
        for (int n = 1; n <= 12; n++) {
            due(n + " of an empty tape", x.ballot(0, 0, 10, n), false);
        }
        due("no ballot", x.count(10), 0);
        due("no bytes", x.count(5), 0);
        due("none of an empty tape", x.ballot(0, 0, 10, 0), true);
        Desks.put(x, 2, 0, 255, 255);
        boolean[] refused = {x.ballot(7, 0, 10, 4), x.ballot(0, 2, 10, 4), x.ballot(0, 0, 401, 4),
            x.ballot(0, 0, 10, 13), x.ballot(0, 0, 10, -1), x.ballot(-1, -1, -1, 21)};
        for (int i = 0; i < refused.length; i++) {
            due("refused " + i, refused[i], false);
        }
        due("the tape stays", x.count(5), 20);
        due("and its bytes", x.ballot(0, 0, 10, 2), true);
        worths(x, 0, 0, 2, 0, 3);
    }

    private static void ballotNoSuchBooks() {
        CHECK.sentence("no such BOOKS,");
        for (int wrong : new int[] {5, 6, 23, 24, 31, 32, 36, 64, 127, 128, 132, 254, 255}) {
            for (int place = 0; place < 4; place++) {
                PrizeDesk x = wide(5);
                Desks.vote(x, 0, 0, 4);
                int[] row = {0, 1, 2, 3};
                row[place] = wrong;
                due(wrong + " at " + place, Desks.vote(x, 0, 0, row), false);
                due("the tape is gone", x.count(5), 0);
                worths(x, 0, 0, 0, 0, 0, 0, 5);
            }
        }
        PrizeDesk y = wide(5);
        Desks.put(y, 4, 5);
        due("not among the n", y.ballot(0, 0, 10, 1), true);
        y.withdraw(4);
        due("a withdrawn one is one", Desks.vote(y, 0, 0, 4, 3), true);
        due("no books at all", Desks.vote(new PrizeDesk(), 0, 0, 0), false);
        Desks.put(y, 99);
        due("no such judge either: the tape stays", y.ballot(7, 0, 10, 1), false);
        due("it stays", y.count(5), 20);
    }

    private static void ballotOneTwice() {
        CHECK.sentence("one twice.");
        int[][] rows = {{0, 0}, {1, 2, 1}, {0, 1, 2, 3, 4, 5, 6, 7, 8, 9, 10, 0},
            {0, 1, 2, 3, 4, 5, 6, 7, 8, 9, 10, 10}, {11, 11, 11}};
        for (int[] row : rows) {
            PrizeDesk x = wide(12);
            Desks.vote(x, 3, 1, 7);
            due("a row of " + row.length, Desks.vote(x, 3, 1, row), false);
            due("the tape is gone", x.count(5), 0);
            due("the former stays", x.worth(1, 0, 7), 12);
            due("one ballot", x.count(11), 1);
        }
        PrizeDesk y = wide(3);
        Desks.put(y, 1, 2, 1);
        due("not twice among the n", y.ballot(0, 0, 10, 2), true);
        y.withdraw(0);
        due("a withdrawn one twice", Desks.vote(y, 0, 0, 0, 0), false);
    }

    private static void oneForEachStage() {
        CHECK.sentence("BALLOTS: each JUDGE may tell one for each STAGE (0 THE SHORTLIST, 1 THE WINNER) on a DAY: "
                + "some BOOKS in order, best first (12 at most);");
        PrizeDesk x = wide(3);
        for (int j = 0; j < 7; j++) {
            due("stage 0", Desks.vote(x, j, 0, 2, 1), true);
            due("stage 1", Desks.vote(x, j, 1, 0), true);
        }
        due("seven for the shortlist", x.count(10), 7);
        due("seven for the winner", x.count(11), 7);
        worths(x, 0, 0, 0, 14, 21);
        worths(x, 1, 0, 21, 0, 0);
        PrizeDesk y = wide(13);
        due("thirteen", Desks.vote(y, 0, 0, 0, 1, 2, 3, 4, 5, 6, 7, 8, 9, 10, 11, 12), false);
        y.rules(0);
        due("twelve", Desks.vote(y, 0, 0, TWELVE), true);
        due("none", Desks.vote(y, 1, 0), true);
        due("two ballots", y.count(10), 2);
    }

    private static void laterTold() {
        CHECK.sentence("the later told one takes the place of the former.");
        PrizeDesk x = wide(4);
        Desks.voteOn(x, 300, 2, 0, 3, 2, 1);
        Desks.voteOn(x, 5, 2, 0, 1);
        due("one ballot", x.count(10), 1);
        worths(x, 0, 0, 0, 4, 0, 0);
        Desks.voteOn(x, 400, 2, 0);
        worths(x, 0, 0, 0, 0, 0, 0);
        due("an empty one is one", x.count(10), 1);
        Desks.voteOn(x, 5, 2, 0, 0, 1, 2, 3);
        Desks.voteOn(x, 5, 2, 0, 3, 0);
        worths(x, 0, 0, 3, 0, 0, 4);
        Desks.vote(x, 2, 1, 1);
        Desks.vote(x, 3, 0, 2);
        worths(x, 0, 0, 3, 0, 4, 4);
        due("a refused one", Desks.vote(x, 2, 0, 1, 1), false);
        worths(x, 0, 0, 3, 0, 4, 4);
        x.close(0, 100);
        due("a late one", Desks.voteOn(x, 101, 2, 0, 1), true);
        worths(x, 0, 0, 0, 0, 4, 0);
        due("the former counts no more", x.count(10), 1);
    }

    private static void countsByDay() {
        CHECK.sentence("It counts if its DAY is not behind that STAGE's CLOSE (400 at first).");
        for (int stage = 0; stage < 2; stage++) {
            PrizeDesk x = wide(2);
            Desks.voteOn(x, 0, 0, stage, 1);
            Desks.voteOn(x, 99, 1, stage, 1);
            Desks.voteOn(x, 100, 2, stage, 1);
            Desks.voteOn(x, 101, 3, stage, 1);
            Desks.voteOn(x, 400, 4, stage, 1);
            int[] closes = {400, 399, 101, 100, 99, 98, 0, 400};
            int[] counting = {5, 4, 4, 3, 2, 1, 1, 5};
            due("400 at first", x.count(10 + stage), 5);
            for (int i = 0; i < closes.length; i++) {
                x.close(stage, closes[i]);
                due("closed on " + closes[i], x.count(10 + stage), counting[i]);
                due("points", x.worth(stage, 0, 1), 2 * counting[i]);
                due("by pairs", x.worth(stage, 1, 1), 1001);
            }
            x.close(1 - stage, 0);
            due("the other's close does not matter", x.count(10 + stage), 5);
        }
        PrizeDesk y = wide(2);
        Desks.voteOn(y, 50, 0, 0, 1);
        y.close(0, 49);
        due("late: no points", y.worth(0, 0, 1), 0);
        due("late: beats none", y.worth(0, 1, 1), 1000);
        due("late: goes to none", y.worth(0, 2, 1), 1);
        Desks.tell(y, "c1");
        due("late: tells no ties", y.counted(0, 0, 0), 0);
        y.close(0, 50);
        due("in time: tells them", y.counted(0, 0, 0), 1);
    }

    private static void closePromise() {
        CHECK.sentence("CLOSE of a STAGE: true;");
        PrizeDesk x = wide(2);
        for (int stage = 0; stage < 2; stage++) {
            Desks.voteOn(x, 1, 0, stage, 1);
            due("day 0", x.close(stage, 0), true);
            due("closed", x.count(10 + stage), 0);
            due("day 400", x.close(stage, 400), true);
            due("open again", x.count(10 + stage), 1);
            due("the same once more", x.close(stage, 400), true);
        }
    }

    private static void closeRefused() {
        CHECK.sentence("CLOSE of a STAGE: true; false: no such ones.");
        PrizeDesk x = wide(2);
        x.close(0, 200);
        x.close(1, 300);
        Desks.voteOn(x, 200, 0, 0, 1);
        Desks.voteOn(x, 201, 1, 0, 1);
        Desks.voteOn(x, 300, 0, 1, 1);
        Desks.voteOn(x, 301, 1, 1, 1);
        for (int stage : Desks.outside(0, 1)) {
            due("stage " + stage, x.close(stage, 10), false);
        }
        for (int day : Desks.outside(0, 400)) {
            due("day " + day, x.close(0, day), false);
            due("day " + day, x.close(1, day), false);
        }
        due("the close of the shortlist stays", x.count(10), 1);
        due("the close of the winner stays", x.count(11), 1);
    }

    private static void onlyOfTheList() {
        CHECK.sentence("Of a BALLOT only BOOKS on the list of which the STAGE chooses (THE LONGLIST, THE SHORTLIST) "
                + "are looked at, in their order;");
        PrizeDesk x = Desks.withMarked(8);
        Desks.vote(x, 1, 0, 7, 5, 6, 0);
        due("six on the list", x.count(3), 6);
        worths(x, 0, 0, 5, 0, 0, 0, 0, 6, NONE, NONE);
        worths(x, 0, 2, 5, 4, 3, 2, 1, 6, NONE, NONE);
        due("three on the shortlist", x.count(4), 3);
        Desks.vote(x, 1, 1, 7, 4, 3, 1, 5);
        worths(x, 1, 0, 0, 3, NONE, NONE, NONE, 2, NONE, NONE);
        due("5, 0, 1 by the ballot of the first", x.told(0, 0, 1, 2), 1);
        Desks.vote(x, 1, 1, 7, 6, 4, 3, 2);
        worths(x, 1, 0, 0, 0, NONE, NONE, NONE, 0);
        due("it counts all the same", x.count(11), 1);
    }

    private static void barredPassedOver() {
        CHECK.sentence("those of the list from which the JUDGE is BARRED are passed over, too.");
        PrizeDesk x = wide(4);
        Desks.vote(x, 0, 0, 3, 2, 1);
        x.kin(0, 3);
        worths(x, 0, 0, 0, 3, 4, 0);
        worths(x, 0, 1, 998, 1001, 1003, 998);
        due("first of rounds", x.counted(0, 2, 0), 2);
        x.friend(0, 2);
        worths(x, 0, 0, 0, 4, 0, 0);
        worths(x, 0, 1, 999, 1003, 999, 999);
        Desks.vote(x, 1, 0, 3);
        due("another judge's is looked at", x.worth(0, 0, 3), 4);
        Desks.tell(x, "l12;s12;c1");
        order(x, 0, 0, 1, 3, 0, 2);
        x.kin(0, 1);
        order(x, 0, 0, 3, 0, 1, 2);
        due("all passed over, yet it counts", x.count(10), 2);
    }

    private static void asThingsAre() {
        CHECK.sentence("(As things are when it is asked.)");
        PrizeDesk x = wide(3);
        Desks.vote(x, 5, 0, 2, 1, 0);
        worths(x, 0, 0, 1, 2, 3);
        x.withdraw(2);
        worths(x, 0, 0, 1, 2, NONE);
        x.book(7, 100, 10);
        x.mark(6, 3, 50);
        worths(x, 0, 0, 2, 3, NONE, 0);
        x.kin(5, 1);
        worths(x, 0, 0, 3, 0, NONE, 0);
        Desks.tell(x, "l1");
        worths(x, 0, 0, 1, NONE, NONE, NONE);
        x.mark(6, 3, 51);
        worths(x, 0, 0, NONE, NONE, NONE, 0);
        x.close(0, 9);
        due("late now", x.count(10), 0);
        x.close(0, 10);
        x.mark(6, 0, 52);
        worths(x, 0, 0, 1, NONE, NONE, NONE);
    }

    private static void ordersAll() {
        CHECK.sentence("A COUNT of a STAGE orders all BOOKS of that list, best first.");
        for (int stage = 0; stage < 2; stage++) {
            for (int kind = 0; kind < 3; kind++) {
                order(new PrizeDesk(), stage, kind);
                order(wide(1), stage, kind, 0);
                PrizeDesk x = wide(12);
                order(x, stage, kind, 0, 1, 2, 3, 4, 5, 6, 7, 8, 9, 10, 11);
                Desks.vote(x, 3, stage, 11, 9, 7);
                if (kind == 2) {
                    order(x, stage, kind, 11, 0, 1, 2, 3, 4, 5, 6, 7, 8, 9, 10);
                } else {
                    order(x, stage, kind, 11, 9, 7, 0, 1, 2, 3, 4, 5, 6, 8, 10);
                }
                Desks.vote(x, 3, stage);
                order(x, stage, kind, 0, 1, 2, 3, 4, 5, 6, 7, 8, 9, 10, 11);
            }
        }
    }

    private static void tiesByChair() {
        CHECK.sentence("TIES between BOOKS: with c 1 THE CHAIR's BALLOT of that STAGE, if it counts: one on it is "
                + "ahead of one that is not, of two on it the one that comes first;");
        for (int stage = 0; stage < 2; stage++) {
            PrizeDesk x = Desks.withMarked(4);
            Desks.tell(x, "l12;s12;c1");
            Desks.vote(x, 0, stage, 3, 1);
            Desks.vote(x, 1, stage, 1, 3);
            for (int kind = 0; kind < 2; kind++) {
                order(x, stage, kind, 3, 1, 0, 2);
            }
            Desks.vote(x, 0, stage, 0, 3, 2, 1);
            Desks.vote(x, 1, stage, 1, 2, 3, 0);
            order(x, stage, 0, 0, 3, 2, 1);
            order(x, stage, 1, 0, 3, 2, 1);
            order(x, stage, 2, 0, 1, 3, 2);
            Desks.vote(x, 0, stage, 3);
            Desks.vote(x, 1, stage, 2);
            order(x, stage, 0, 3, 2, 0, 1);
            order(x, stage, 1, 3, 2, 0, 1);
            order(x, stage, 2, 3, 2, 0, 1);
            x.close(stage, 9);
            order(x, stage, 0, 0, 1, 2, 3);
            order(x, stage, 2, 0, 1, 2, 3);
            x.close(stage, 10);
            Desks.tell(x, "l12;s12;c0");
            order(x, stage, 0, 2, 3, 0, 1);
        }
        PrizeDesk y = Desks.withMarked(3);
        Desks.tell(y, "l12;s12;c1");
        Desks.vote(y, 0, 1, 2);
        Desks.vote(y, 1, 0, 2);
        Desks.vote(y, 2, 0, 1);
        due("not by the other stage's", y.counted(0, 0, 0), 1);
        Desks.vote(y, 1, 1, 1);
        due("by that of the winner", y.counted(1, 0, 0), 2);
    }

    private static void tiesByNumber() {
        CHECK.sentence("else, and if that tells nothing, the lower number.");
        PrizeDesk x = Desks.withMarked(4);
        Desks.vote(x, 1, 0, 3, 2);
        Desks.vote(x, 2, 0, 2, 3);
        order(x, 0, 0, 2, 3, 0, 1);
        order(x, 0, 1, 2, 3, 0, 1);
        order(x, 0, 2, 2, 3, 0, 1);
        Desks.tell(x, "c1");
        order(x, 0, 0, 2, 3, 0, 1);
        Desks.vote(x, 0, 0);
        order(x, 0, 0, 2, 3, 0, 1);
        order(x, 0, 2, 2, 3, 0, 1);
        Desks.vote(x, 0, 0, 1);
        order(x, 0, 0, 2, 3, 1, 0);
        Desks.tell(x, "c0");
        Desks.vote(x, 0, 0, 3, 1);
        Desks.vote(x, 1, 0, 1, 3);
        Desks.vote(x, 2, 0);
        order(x, 0, 0, 1, 3, 0, 2);
        order(x, 0, 1, 1, 3, 0, 2);
        order(x, 0, 2, 1, 3, 0, 2);
    }

    private static void points() {
        CHECK.sentence("POINTS: with n BOOKS on the list the i-th on a BALLOT (from 0 on) gets n - i; most first; "
                + "TIES.");
        PrizeDesk x = wide(12);
        for (int j = 0; j < 7; j++) {
            Desks.vote(x, j, 0, TWELVE);
        }
        for (int b = 0; b < 12; b++) {
            due("points of " + b, x.worth(0, 0, b), 7 * (12 - b));
        }
        PrizeDesk y = wide(1);
        Desks.vote(y, 0, 0, 0);
        due("one alone", y.worth(0, 0, 0), 1);
        PrizeDesk z = wide(5);
        Desks.vote(z, 0, 0, 4);
        Desks.vote(z, 1, 0, 3, 2);
        Desks.vote(z, 2, 0, 2, 1, 0);
        worths(z, 0, 0, 3, 4, 9, 5, 5);
        order(z, 0, 0, 2, 3, 4, 1, 0);
        Desks.tell(z, "l12;s12;c1");
        order(z, 0, 0, 2, 4, 3, 1, 0);
    }

    private static void beats() {
        CHECK.sentence("PAIRS: of two BOOKS one BEATS the other if more BALLOTS have it ahead than the other way "
                + "round");
        PrizeDesk x = wide(2);
        worths(x, 0, 1, 1000, 1000);
        Desks.vote(x, 0, 0, 1, 0);
        worths(x, 0, 1, 999, 1001);
        Desks.vote(x, 1, 0, 0, 1);
        worths(x, 0, 1, 1000, 1000);
        for (int j = 2; j < 5; j++) {
            Desks.vote(x, j, 0, 1, 0);
        }
        Desks.vote(x, 5, 0, 0, 1);
        Desks.vote(x, 6, 0, 0, 1);
        due("four of seven", x.worth(0, 1, 1), 1001);
        Desks.vote(x, 4, 0, 0, 1);
        due("three of seven", x.worth(0, 1, 1), 999);
        Desks.vote(x, 4, 0);
        worths(x, 0, 1, 1000, 1000);
        order(x, 0, 1, 0, 1);
    }

    private static void beatsOnAndOff() {
        CHECK.sentence("(on a BALLOT is ahead of not on it; both not: neither).");
        PrizeDesk x = wide(4);
        Desks.vote(x, 0, 0, 2);
        worths(x, 0, 1, 999, 999, 1003, 999);
        Desks.vote(x, 1, 0, 3);
        worths(x, 0, 1, 998, 998, 1002, 1002);
        Desks.vote(x, 2, 0, 3);
        worths(x, 0, 1, 998, 998, 1001, 1003);
        Desks.vote(x, 3, 0);
        worths(x, 0, 1, 998, 998, 1001, 1003);
        PrizeDesk y = wide(3);
        Desks.vote(y, 0, 0, 0, 1, 2);
        due("the last on a full ballot", y.worth(0, 1, 2), 998);
        Desks.vote(y, 0, 0, 0, 1);
        due("not on it is the same", y.worth(0, 1, 2), 998);
    }

    private static void score() {
        CHECK.sentence("A BOOK's SCORE: those that it BEATS less those that BEAT it; greatest first; TIES.");
        PrizeDesk x = wide(12);
        Desks.vote(x, 6, 0, TWELVE);
        for (int b = 0; b < 12; b++) {
            due("score of " + b, x.worth(0, 1, b), 1011 - 2 * b);
        }
        order(x, 0, 1, TWELVE);
        PrizeDesk y = wide(4);
        Desks.vote(y, 0, 0, 3, 1);
        Desks.vote(y, 1, 0, 1, 3);
        worths(y, 0, 1, 998, 1002, 998, 1002);
        order(y, 0, 1, 1, 3, 0, 2);
        Desks.tell(y, "l12;s12;c1");
        order(y, 0, 1, 3, 1, 0, 2);
    }

    private static void ring(PrizeDesk x, int stage, int a, int b, int c) {
        Desks.vote(x, 1, stage, a, b, c);
        Desks.vote(x, 2, stage, b, c, a);
        Desks.vote(x, 3, stage, c, a, b);
    }

    private static void paradox(PrizeDesk x, int stage, int a, int b, int c) {
        due("paradox(" + stage + ", 0)", x.paradox(stage, 0), a);
        due("paradox(" + stage + ", 1)", x.paradox(stage, 1), b);
        due("paradox(" + stage + ", 2)", x.paradox(stage, 2), c);
    }

    private static void paradoxRow() {
        CHECK.sentence("A PARADOX: a BOOK a that BEATS b, which BEATS c, which BEATS a: the least row a, b, c, "
                + "number by number.");
        PrizeDesk x = wide(12);
        ring(x, 0, 9, 10, 11);
        paradox(x, 0, 9, 10, 11);
        ring(x, 0, 11, 9, 10);
        paradox(x, 0, 9, 10, 11);
        ring(x, 0, 11, 10, 9);
        paradox(x, 0, 9, 11, 10);
        ring(x, 0, 0, 2, 1);
        paradox(x, 0, 0, 2, 1);
        ring(x, 0, 0, 6, 11);
        paradox(x, 0, 0, 6, 11);
        PrizeDesk y = wide(5);
        Desks.vote(y, 1, 0, 0, 3, 1, 4, 2);
        Desks.vote(y, 2, 0, 1, 4, 2, 0, 3);
        Desks.vote(y, 3, 0, 2, 0, 3, 1, 4);
        paradox(y, 0, 0, 1, 2);
        y.withdraw(1);
        paradox(y, 0, 0, 4, 2);
        y.withdraw(4);
        paradox(y, 0, NONE, NONE, NONE);
        PrizeDesk two = wide(4);
        Desks.vote(two, 1, 0, 1, 3, 2, 0);
        Desks.vote(two, 2, 0, 3, 2, 1, 0);
        Desks.vote(two, 3, 0, 2, 1, 3, 0);
        paradox(two, 0, 1, 3, 2);
        Desks.vote(two, 1, 0, 0, 1, 3, 2);
        Desks.vote(two, 2, 0, 1, 3, 2, 0);
        Desks.vote(two, 3, 0, 3, 2, 0, 1);
        paradox(two, 0, 0, 1, 2);
        Desks.vote(two, 1, 0, 0, 2, 1, 3);
        Desks.vote(two, 2, 0, 2, 1, 3, 0);
        Desks.vote(two, 3, 0, 3, 0, 2, 1);
        paradox(two, 0, 0, 1, 3);
    }

    private static void roundsShare() {
        CHECK.sentence("ROUNDS: each BALLOT goes to the first of its BOOKS that is still there (or to none).");
        PrizeDesk x = wide(4);
        Desks.vote(x, 0, 0, 3, 2);
        Desks.vote(x, 1, 0, 2);
        Desks.vote(x, 2, 0, 2);
        Desks.vote(x, 3, 0, 1);
        Desks.vote(x, 4, 0, 1);
        Desks.vote(x, 5, 0, 1);
        worths(x, 0, 2, 1, 4, 3, 2);
        Desks.vote(x, 6, 0, 0, 3, 2);
        worths(x, 0, 2, 2, 3, 4, 1);
        Desks.vote(x, 0, 0, 3);
        Desks.vote(x, 6, 0, 0, 3);
        worths(x, 0, 2, 2, 4, 3, 1);
        Desks.vote(x, 6, 0);
        worths(x, 0, 2, 1, 4, 3, 2);
    }

    private static void roundsFewest() {
        CHECK.sentence("The one with fewest BALLOTS goes out (TIES: of those that have fewest the one that is last "
                + "by TIES);");
        PrizeDesk x = wide(4);
        Desks.vote(x, 1, 0, 3);
        Desks.vote(x, 2, 0, 2);
        Desks.vote(x, 3, 0, 2);
        worths(x, 0, 2, 2, 1, 4, 3);
        Desks.vote(x, 4, 0, 3);
        worths(x, 0, 2, 2, 1, 4, 3);
        Desks.tell(x, "l12;s12;c1");
        Desks.vote(x, 0, 0, 1, 3);
        worths(x, 0, 2, 1, 2, 3, 4);
        Desks.vote(x, 0, 0, 3, 1);
        Desks.vote(x, 5, 0, 2);
        worths(x, 0, 2, 1, 2, 3, 4);
        Desks.vote(x, 0, 0);
        worths(x, 0, 2, 2, 1, 4, 3);
        PrizeDesk none = wide(12);
        for (int b = 0; b < 12; b++) {
            due("without ballots, " + b, none.worth(0, 2, b), 12 - b);
        }
    }

    private static void roundsOrder() {
        CHECK.sentence("again and again till one is left: it is first; the others by when they went out, the last "
                + "first.");
        order(wide(1), 0, 2, 0);
        PrizeDesk x = wide(5);
        Desks.vote(x, 0, 0, 4, 0);
        Desks.vote(x, 1, 0, 4);
        Desks.vote(x, 2, 0, 4);
        Desks.vote(x, 3, 0, 2);
        Desks.vote(x, 4, 0, 2);
        Desks.vote(x, 5, 0, 3);
        order(x, 0, 2, 4, 2, 3, 0, 1);
        worths(x, 0, 2, 2, 1, 4, 3, 5);
        PrizeDesk y = wide(12);
        Desks.vote(y, 0, 0, 11, 10, 9, 8, 7, 6, 5, 4, 3, 2, 1, 0);
        order(y, 0, 2, 11, 0, 1, 2, 3, 4, 5, 6, 7, 8, 9, 10);
    }

    private static void shortlist() {
        CHECK.sentence("THE SHORTLIST: the first s of STAGE 0's COUNT of THE LONGLIST.");
        PrizeDesk x = Desks.withThreeWinners();
        Desks.list(CHECK, x, 1, 0, 1, 2);
        Desks.tell(x, "s1");
        Desks.list(CHECK, x, 1, 0);
        Desks.tell(x, "s4");
        Desks.list(CHECK, x, 1, 0, 1, 2, 3);
        Desks.tell(x, "s12");
        Desks.list(CHECK, x, 1, 0, 1, 2, 3);
        Desks.tell(x, "s2;v1");
        Desks.list(CHECK, x, 1, 2, 0);
        Desks.tell(x, "s2;v2");
        Desks.list(CHECK, x, 1, 1, 2);
        Desks.tell(x, "l2;s3");
        Desks.list(CHECK, x, 1, 0, 1);
        Desks.list(CHECK, new PrizeDesk(), 1);
        Desks.vote(x, 1, 1, 3);
        Desks.tell(x, "s1");
        Desks.list(CHECK, x, 1, 0);
    }

    private static void winner() {
        CHECK.sentence("THE WINNER: the first of STAGE 1's COUNT of THE SHORTLIST.");
        PrizeDesk x = Desks.withThreeWinners();
        Desks.vote(x, 1, 1, 3, 2);
        Desks.list(CHECK, x, 2, 2);
        Desks.vote(x, 1, 1, 3);
        Desks.list(CHECK, x, 2, 0);
        Desks.tell(x, "s4");
        Desks.list(CHECK, x, 2, 3);
        Desks.tell(x, "s1");
        Desks.list(CHECK, x, 2, 0);
        Desks.list(CHECK, new PrizeDesk(), 2);
        PrizeDesk y = Desks.withMarked(4);
        Desks.vote(y, 1, 1, 2, 0);
        Desks.vote(y, 2, 1, 1);
        Desks.vote(y, 3, 1, 2, 0);
        Desks.vote(y, 4, 1, 0);
        Desks.vote(y, 5, 1, 1);
        Desks.tell(y, "s4;v0");
        Desks.list(CHECK, y, 2, 0);
        Desks.tell(y, "s4;v1");
        Desks.list(CHECK, y, 2, 2);
        Desks.tell(y, "s4;v2");
        Desks.list(CHECK, y, 2, 1);
    }

    private static void countedKinds() {
        CHECK.sentence("The i-th BOOK of STAGE's COUNT by a kind of VOTE (0 to 2, whatever RULES say);");
        for (int v = 0; v < 3; v++) {
            PrizeDesk x = Desks.withThreeWinners();
            Desks.tell(x, "s4;v" + v);
            order(x, 0, 0, 0, 1, 2, 3);
            order(x, 0, 1, 2, 0, 1, 3);
            order(x, 0, 2, 1, 2, 0, 3);
            Desks.vote(x, 1, 1, 3, 2);
            order(x, 1, 0, 3, 2, 0, 1);
            order(x, 1, 1, 3, 2, 0, 1);
            order(x, 1, 2, 3, 0, 1, 2);
        }
        PrizeDesk y = Desks.withThreeWinners();
        Desks.tell(y, "s2;v1");
        order(y, 1, 0, 0, 2);
        Desks.tell(y, "s2;v2");
        order(y, 1, 0, 1, 2);
    }

    private static void countedOutside() {
        CHECK.sentence("whatever RULES say); NONE: there is none such.");
        PrizeDesk x = wide(3);
        for (int i : Desks.outside(0, 2)) {
            for (int kind = 0; kind < 3; kind++) {
                due("counted(0, " + kind + ", " + i + ")", x.counted(0, kind, i), NONE);
                due("counted(1, " + kind + ", " + i + ")", x.counted(1, kind, i), NONE);
            }
        }
        for (int n : Desks.outside(0, 2)) {
            due("stage " + n, x.counted(n, 0, 0), NONE);
            due("kind " + n, x.counted(0, n, 0), NONE);
        }
        due("stage 2", x.counted(2, 0, 0), NONE);
        due("the last", x.counted(0, 0, 2), 2);
        due("without books", new PrizeDesk().counted(0, 0, 0), NONE);
    }

    private static void worthOfKinds() {
        CHECK.sentence("What BOOK b has in STAGE's COUNT by a kind: 0 its points, 1 its SCORE (1000 more),");
        PrizeDesk x = Desks.withThreeWinners();
        worths(x, 0, 0, 10, 8, 8, 0);
        worths(x, 0, 1, 1001, 1000, 1002, 997);
        Desks.tell(x, "s2");
        Desks.vote(x, 6, 1, 1);
        worths(x, 1, 0, 0, 2, NONE, NONE);
        worths(x, 1, 1, 999, 1001, NONE, NONE);
        PrizeDesk full = wide(12);
        Desks.vote(full, 0, 0, TWELVE);
        due("the greatest score", full.worth(0, 1, 0), 1011);
        due("the least score", full.worth(0, 1, 11), 989);
    }

    private static void worthOfRounds() {
        CHECK.sentence("2 the round in which it went out (from 1 on; who is left: one more than the last one);");
        worths(Desks.withThreeWinners(), 0, 2, 2, 4, 3, 1);
        worths(wide(1), 0, 2, 1);
        worths(wide(2), 0, 2, 2, 1);
        PrizeDesk x = wide(12);
        Desks.vote(x, 4, 0, 5);
        worths(x, 0, 2, 11, 10, 9, 8, 7, 12, 6, 5, 4, 3, 2, 1);
        Desks.vote(x, 4, 1, 11);
        worths(x, 1, 2, 11, 10, 9, 8, 7, 6, 5, 4, 3, 2, 1, 12);
    }

    private static void worthOutside() {
        CHECK.sentence("NONE: no such ones, it is not on that list.");
        PrizeDesk x = Desks.withMarked(4);
        Desks.tell(x, "l3;s2");
        x.book(5, 100, 10);
        for (int kind = 0; kind < 3; kind++) {
            for (int b : Desks.outside(0, 4)) {
                due("book " + b, x.worth(0, kind, b), NONE);
            }
            for (int stage : Desks.outside(0, 1)) {
                due("stage " + stage, x.worth(stage, kind, 0), NONE);
            }
            due("on the longlist", x.worth(0, kind, 2) != NONE, true);
            due("not on the longlist", x.worth(0, kind, 3), NONE);
            due("without a mark", x.worth(0, kind, 4), NONE);
            due("on the shortlist", x.worth(1, kind, 1) != NONE, true);
            due("not on the shortlist", x.worth(1, kind, 2), NONE);
        }
        for (int kind : Desks.outside(0, 2)) {
            due("kind " + kind, x.worth(0, kind, 0), NONE);
            due("kind " + kind, x.worth(1, kind, 0), NONE);
        }
        x.withdraw(0);
        due("withdrawn", x.worth(0, 0, 0), NONE);
        due("without books", new PrizeDesk().worth(0, 0, 0), NONE);
    }

    private static void paradoxPromise() {
        CHECK.sentence("THE PARADOX of a STAGE, what 0 a, 1 b, 2 c;");
        PrizeDesk x = wide(5);
        ring(x, 0, 2, 4, 3);
        ring(x, 1, 1, 0, 4);
        paradox(x, 0, 2, 4, 3);
        paradox(x, 1, 0, 4, 1);
        for (int v = 0; v < 3; v++) {
            Desks.tell(x, "l12;s12;v" + v);
            paradox(x, 0, 2, 4, 3);
            paradox(x, 1, 0, 4, 1);
        }
        Desks.tell(x, "l12;s2");
        paradox(x, 0, 2, 4, 3);
        paradox(x, 1, NONE, NONE, NONE);
    }

    private static void paradoxNone() {
        CHECK.sentence("what 0 a, 1 b, 2 c; NONE: there is none.");
        paradox(new PrizeDesk(), 0, NONE, NONE, NONE);
        paradox(wide(3), 0, NONE, NONE, NONE);
        PrizeDesk x = wide(3);
        ring(x, 0, 0, 1, 2);
        ring(x, 1, 0, 2, 1);
        paradox(x, 1, 0, 2, 1);
        for (int what : Desks.outside(0, 2)) {
            due("what " + what, x.paradox(0, what), NONE);
            due("what " + what, x.paradox(1, what), NONE);
        }
        for (int stage : Desks.outside(0, 1)) {
            due("stage " + stage, x.paradox(stage, 0), NONE);
        }
        paradox(x, 0, 0, 1, 2);
        Desks.vote(x, 4, 0, 1, 0);
        paradox(x, 0, NONE, NONE, NONE);
        Desks.vote(x, 4, 0);
        paradox(x, 0, 0, 1, 2);
        x.kin(2, 2);
        paradox(x, 0, NONE, NONE, NONE);
        PrizeDesk one = wide(3);
        Desks.vote(one, 0, 0, 0, 1, 2);
        paradox(one, 0, NONE, NONE, NONE);
    }
}
