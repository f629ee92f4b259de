/** Marks, where judges met, thirds and the longlist, promises 11 to 13: for each sentence a test of its own. */
public final class MarksEdgeTest {
    private static final int NONE = -1;
    private static final Check CHECK = new Check();

    private MarksEdgeTest() {
    }

    public static void main(String[] args) {
        marksByJudges();
        marksAnew();
        markTold();
        markRefused();
        metOnBooks();
        apart();
        metPromise();
        metSumMinusOne();
        metOthers();
        wantsThird();
        thirdByNumber();
        thirdOutside();
        longlistOfWhich();
        longlistSize();
        longlistByMean();
        longlistByMarks();
        longlistByNumber();
        CHECK.end();
    }

    private static void due(String call, long got, long want) {
        CHECK.due(call, got, want);
    }

    private static void due(String call, boolean got, boolean want) {
        CHECK.due(call, got, want);
    }

    private static void longlist(PrizeDesk x, int... books) {
        Desks.list(CHECK, x, 0, books);
    }

    /** Marks by judges 0, 1 and so on. */
    private static void markAll(PrizeDesk x, int b, int... marks) {
        for (int j = 0; j < marks.length; j++) {
            x.mark(j, b, marks[j]);
        }
    }

    private static void marksByJudges() {
        CHECK.sentence("MARKS (0 to 100) are told by JUDGES of BOOKS from which they are not BARRED,");
        PrizeDesk x = Desks.with(2);
        due("0", x.mark(0, 0, 0), true);
        due("100", x.mark(1, 0, 100), true);
        due("1", x.mark(2, 0, 1), true);
        due("99", x.mark(3, 0, 99), true);
        due("-1", x.mark(4, 0, -1), false);
        due("101", x.mark(4, 0, 101), false);
        x.kin(5, 0);
        x.friend(6, 0);
        due("kin", x.mark(5, 0, 50), false);
        due("friend", x.mark(6, 0, 50), false);
        int[] want = {0, 100, 1, 99, NONE, NONE, NONE};
        for (int j = 0; j < 7; j++) {
            due("look(0, " + (10 + j) + ")", x.look(0, 10 + j), want[j]);
        }
        due("a mark of 0 is one", x.look(0, 1), 4);
        due("their sum", x.look(0, 2), 200);
        due("not barred from the other", x.mark(5, 1, 50), true);
        due("nor this one", x.mark(6, 1, 50), true);
    }

    private static void marksAnew() {
        CHECK.sentence("anew at any time.");
        PrizeDesk x = Desks.with(1);
        for (int n : new int[] {40, 100, 0, 0, 70}) {
            due("mark", x.mark(3, 0, n), true);
            due("it is the last", x.look(0, 13), n);
            due("just one", x.look(0, 1), 1);
            due("the sum", x.look(0, 2), n);
        }
        x.close(0, 0);
        x.telling(0, 0);
        due("behind all days", x.mark(3, 0, 71), true);
        x.withdraw(0);
        due("of a withdrawn one", x.mark(3, 0, 72), true);
        due("72", x.look(0, 13), 72);
        Desks.tell(x, "p999");
        due("of one that is not within the rules", x.mark(2, 0, 73), true);
        due("refused", x.mark(3, 0, 101), false);
        due("the former stays", x.look(0, 13), 72);
    }

    private static void markTold() {
        CHECK.sentence("A MARK: true;");
        PrizeDesk x = Desks.with(24);
        for (int j = 0; j < 7; j++) {
            due("first book", x.mark(j, 0, j), true);
            due("last book", x.mark(j, 23, 100 - j), true);
        }
        for (int j = 0; j < 7; j++) {
            due("of the first", x.look(0, 10 + j), j);
            due("of the last", x.look(23, 10 + j), 100 - j);
            due("of the second", x.look(1, 10 + j), NONE);
            due("of the last but one", x.look(22, 10 + j), NONE);
        }
    }

    private static void markRefused() {
        CHECK.sentence("false: no such ones, BARRED.");
        PrizeDesk x = Desks.with(5);
        for (int j : Desks.outside(0, 6)) {
            due("judge " + j, x.mark(j, 0, 50), false);
        }
        for (int b : Desks.outside(0, 4)) {
            due("book " + b, x.mark(0, b, 50), false);
        }
        for (int n : Desks.outside(0, 100)) {
            due("mark " + n, x.mark(0, 0, n), false);
        }
        x.kin(0, 4);
        due("barred", x.mark(0, 4, 50), false);
        x.friend(1, 3);
        due("barred by a friend", x.mark(1, 3, 50), false);
        for (int b = 0; b < 5; b++) {
            due("no marks", x.look(b, 1), 0);
        }
    }

    private static void metOnBooks() {
        CHECK.sentence("Two JUDGES MET on the BOOKS of which both have told MARKS;");
        PrizeDesk x = Desks.with(24);
        due("none", x.met(5, 6, 0), 0);
        x.mark(5, 0, 0);
        due("just one told", x.met(5, 6, 0), 0);
        x.mark(6, 1, 0);
        due("each of another", x.met(5, 6, 0), 0);
        x.mark(6, 0, 0);
        due("a mark of 0 is one", x.met(5, 6, 0), 1);
        due("and the other way", x.met(6, 5, 0), 1);
        x.mark(6, 0, 5);
        due("anew", x.met(5, 6, 0), 1);
        for (int b = 0; b < 24; b++) {
            x.mark(5, b, 100);
            x.mark(6, b, 0);
        }
        due("all", x.met(5, 6, 0), 24);
        due("no others", x.met(4, 5, 0), 0);
        x.withdraw(23);
        due("a withdrawn one, too", x.met(5, 6, 0), 24);
        x.kin(5, 0);
        due("the mark is gone", x.met(5, 6, 0), 23);
        x.friend(6, 1);
        due("three more", x.met(5, 6, 0), 20);
    }

    private static void apart() {
        CHECK.sentence("they are APART if no row of JUDGES leads from one to the other, each having MET the next "
                + "one.");
        int[] row = {3, 6, 0, 5, 1, 4, 2};
        PrizeDesk x = Desks.with(6);
        for (int i = 0; i < 6; i++) {
            x.mark(row[i], 5 - i, 50);
            x.mark(row[i + 1], 5 - i, 50);
        }
        for (int j = 0; j < 7; j++) {
            for (int k = 0; k < 7; k++) {
                due("a row of all seven: " + j + ", " + k, x.met(j, k, 2), j == k ? NONE : 0);
            }
        }
        due("ends have not met", x.met(3, 2, 0), 0);
        x.kin(5, 3);
        for (int j = 0; j < 7; j++) {
            for (int k = 0; k < 7; k++) {
                boolean isJudgeLeft = j == 3 || j == 6 || j == 0;
                boolean isOtherLeft = k == 3 || k == 6 || k == 0;
                due("cut in two: " + j + ", " + k, x.met(j, k, 2), j == k ? NONE : isJudgeLeft != isOtherLeft ? 1 : 0);
            }
        }
        PrizeDesk y = Desks.with(2);
        due("no marks", y.met(0, 1, 2), 1);
        y.mark(0, 0, 50);
        y.mark(1, 1, 50);
        due("on no book", y.met(0, 1, 2), 1);
        y.mark(1, 0, 50);
        due("on one", y.met(0, 1, 2), 0);
        due("nobody else", y.met(0, 2, 2), 1);
    }

    private static void metPromise() {
        CHECK.sentence("What two JUDGES have MET on: what 0 how many BOOKS, 1 the sum of the first one's MARKS of "
                + "these less the other's, 2 whether they are APART (1, 0).");
        PrizeDesk x = Desks.with(24);
        due("sum of none", x.met(0, 1, 1), 0);
        x.mark(0, 0, 70);
        due("just one told", x.met(0, 1, 1), 0);
        x.mark(1, 0, 30);
        x.mark(1, 1, 99);
        due("books", x.met(0, 1, 0), 1);
        due("the first one's less the other's", x.met(0, 1, 1), 40);
        due("the other way round", x.met(1, 0, 1), -40);
        due("apart", x.met(0, 1, 2), 0);
        for (int b = 0; b < 24; b++) {
            x.mark(0, b, 100);
            x.mark(1, b, 0);
        }
        due("the greatest", x.met(0, 1, 1), 2400);
        due("the least", x.met(1, 0, 1), -2400);
    }

    private static void metSumMinusOne() {
        CHECK.sentence("(1 can be that).");
        PrizeDesk x = Desks.with(2);
        x.mark(0, 0, 49);
        x.mark(1, 0, 50);
        due("one less", x.met(0, 1, 1), -1);
        x.mark(0, 1, 100);
        x.mark(1, 1, 98);
        due("and two more", x.met(0, 1, 1), 1);
    }

    private static void metOthers() {
        CHECK.sentence("NONE for others, or no such two");
        PrizeDesk x = Desks.with(1);
        markAll(x, 0, 90, 10, 0, 0, 0, 0, 5);
        for (int what : Desks.outside(0, 2)) {
            due("what " + what, x.met(0, 1, what), NONE);
        }
        for (int what = 0; what < 3; what++) {
            for (int j : Desks.outside(0, 6)) {
                due("met(" + j + ", 1, " + what + ")", x.met(j, 1, what), NONE);
                due("met(1, " + j + ", " + what + ")", x.met(1, j, what), NONE);
                due("met(" + j + ", " + j + ", " + what + ")", x.met(j, j, what), NONE);
            }
            for (int j = 0; j < 7; j++) {
                due("one is not two: met(" + j + ", " + j + ", " + what + ")", x.met(j, j, what), NONE);
            }
        }
        due("the last two", x.met(6, 5, 1), 5);
    }

    private static void wantsThird() {
        CHECK.sentence("A BOOK wants a THIRD if it is IN, just two JUDGES have told MARKS of it, and these are more "
                + "than d apart.");
        PrizeDesk x = Desks.with(1);
        x.mark(6, 0, 100);
        due("one mark", x.count(2), 0);
        x.mark(2, 0, 0);
        due("two, 100 apart", x.count(2), 1);
        x.mark(3, 0, 50);
        due("three", x.count(2), 0);
        x.kin(3, 0);
        due("two again", x.count(2), 1);
        x.mark(2, 0, 70);
        due("30 apart", x.count(2), 0);
        x.mark(2, 0, 69);
        due("31 apart", x.count(2), 1);
        x.mark(2, 0, 100);
        x.mark(6, 0, 69);
        due("31 apart, the other way", x.count(2), 1);
        Desks.tell(x, "d31");
        due("not more than 31", x.count(2), 0);
        Desks.tell(x, "d30;p101");
        due("not in", x.count(2), 0);
        Desks.tell(x, "d0");
        x.mark(2, 0, 69);
        due("alike", x.count(2), 0);
        for (int n = 0; n <= 100; n += 50) {
            x.mark(2, 0, n);
            x.mark(6, 0, n);
            due("both " + n, x.count(2), 0);
        }
        x.mark(6, 0, 69);
        x.mark(2, 0, 68);
        due("1 apart, d0", x.count(2), 1);
        x.mark(2, 0, 0);
        x.mark(6, 0, 100);
        Desks.tell(x, "d99");
        due("100 apart, d99", x.count(2), 1);
        Desks.tell(x, "d100");
        due("100 apart, d100", x.count(2), 0);
        Desks.tell(x, "d9999");
        due("100 apart, d9999", x.count(2), 0);
        Desks.tell(x, "d0");
        x.withdraw(0);
        due("withdrawn", x.count(2), 0);
    }

    private static void thirdByNumber() {
        CHECK.sentence("The i-th BOOK that wants a THIRD, by number;");
        PrizeDesk x = Desks.with(24);
        for (int b = 23; b >= 0; b--) {
            x.mark(0, b, 0);
            x.mark(1, b, b % 2 == 1 ? 100 : 30);
        }
        for (int i = 0; i < 12; i++) {
            due("third(" + i + ")", x.third(i), 2 * i + 1);
        }
        due("no thirteenth", x.third(12), NONE);
        Desks.tell(x, "d29");
        for (int i = 0; i < 24; i++) {
            due("third(" + i + ") of all", x.third(i), i);
        }
        due("no more", x.third(24), NONE);
    }

    private static void thirdOutside() {
        CHECK.sentence("by number; NONE: there is none such.");
        PrizeDesk x = Desks.with(3);
        due("none wants one", x.third(0), NONE);
        for (int b = 0; b < 2; b++) {
            x.mark(0, b, 0);
            x.mark(1, b, 100);
        }
        due("the second", x.third(1), 1);
        for (int i : Desks.outside(0, 1)) {
            due("third(" + i + ")", x.third(i), NONE);
        }
        due("without books", new PrizeDesk().third(0), NONE);
    }

    private static void longlistOfWhich() {
        CHECK.sentence("THE LONGLIST: of BOOKS that are IN and have a MARK");
        PrizeDesk x = Desks.with(4);
        longlist(x);
        x.mark(0, 3, 0);
        longlist(x, 3);
        x.mark(0, 1, 100);
        longlist(x, 1, 3);
        x.withdraw(1);
        longlist(x, 3);
        x.book(3, 10, 10);
        x.mark(0, 4, 100);
        longlist(x, 3);
        x.call(4);
        longlist(x, 3);
        Desks.tell(x, "p10");
        longlist(x, 4, 3);
        x.kin(0, 3);
        longlist(x, 4);
        x.friend(0, 3);
        longlist(x);
    }

    private static void longlistSize() {
        CHECK.sentence("the l ones of the greatest MEAN of MARKS (as fractions),");
        PrizeDesk x = Desks.with(8);
        for (int b = 0; b < 8; b++) {
            x.mark(0, b, 10 * b);
        }
        longlist(x, 7, 6, 5, 4, 3, 2);
        Desks.tell(x, "l1");
        longlist(x, 7);
        Desks.tell(x, "l8");
        longlist(x, 7, 6, 5, 4, 3, 2, 1, 0);
        Desks.tell(x, "l9");
        longlist(x, 7, 6, 5, 4, 3, 2, 1, 0);
        Desks.tell(x, "l7");
        longlist(x, 7, 6, 5, 4, 3, 2, 1);
    }

    /** Of the two books of each pair the second has the greater mean, by as little as can be, and fewer marks. */
    private static void longlistByMean() {
        CHECK.sentence("the greatest MEAN of MARKS (as fractions),");
        PrizeDesk x = Desks.with(6);
        markAll(x, 0, 0, 0, 0, 1, 0, 0, 0);
        markAll(x, 1, 0, 0, 0, 0, 0, 1);
        markAll(x, 2, 100, 100, 100, 100, 100, 100, 94);
        markAll(x, 3, 100, 100, 95, 100, 100, 100);
        markAll(x, 4, 66, 67, 66);
        markAll(x, 5, 67, 66);
        longlist(x, 3, 2, 5, 4, 1, 0);
        PrizeDesk y = Desks.with(2);
        markAll(y, 0, 100, 100, 0);
        markAll(y, 1, 67);
        longlist(y, 1, 0);
        y.mark(0, 1, 66);
        longlist(y, 0, 1);
    }

    private static void longlistByMarks() {
        CHECK.sentence("of like ones with more MARKS,");
        PrizeDesk x = Desks.with(6);
        markAll(x, 0, 50);
        markAll(x, 1, 0, 100);
        markAll(x, 2, 100, 50, 0);
        markAll(x, 3, 50, 50, 50, 50, 50, 50, 50);
        markAll(x, 4, 49, 51, 48, 52, 47, 53);
        markAll(x, 5, 51);
        longlist(x, 5, 3, 4, 2, 1, 0);
        PrizeDesk y = Desks.with(4);
        markAll(y, 0, 1, 0, 0);
        markAll(y, 1, 1, 0, 1, 0, 0, 0);
        markAll(y, 2, 0);
        markAll(y, 3, 0, 0, 0, 0, 0, 0, 0);
        longlist(y, 1, 0, 3, 2);
    }

    private static void longlistByNumber() {
        CHECK.sentence("of like ones with lower numbers.");
        PrizeDesk x = Desks.with(24);
        Desks.tell(x, "l12");
        for (int b = 23; b >= 0; b--) {
            x.mark(b % 7, b, 33);
        }
        longlist(x, 0, 1, 2, 3, 4, 5, 6, 7, 8, 9, 10, 11);
        x.withdraw(0);
        longlist(x, 1, 2, 3, 4, 5, 6, 7, 8, 9, 10, 11, 12);
        PrizeDesk y = Desks.with(2);
        markAll(y, 1, 30, 40);
        markAll(y, 0, 35, 35);
        longlist(y, 0, 1);
    }
}
