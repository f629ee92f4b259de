/** A new desk, books, judges and the least load, promises 1 and 5 to 10: for each sentence a test of its own. */
public final class BooksEdgeTest {
    private static final int NONE = -1;
    private static final Check CHECK = new Check();

    private BooksEdgeTest() {
    }

    public static void main(String[] args) {
        newDesk();
        newRules();
        rangesOfBooks();
        bookNumbers();
        bookRefused();
        bookWhenFull();
        callOnce();
        callRefused();
        withdrawOnce();
        withdrawRefused();
        calledOrWithdrawn();
        withinRules();
        notWithdrawn();
        calledIn();
        fewerThanB();
        judges();
        barred();
        kinOnce();
        kinRefused();
        kinMarks();
        friendOfAll();
        friendRefused();
        leastLoad();
        loadOfNothing();
        loadOfTooFew();
        loadPromise();
        CHECK.end();
    }

    private static void due(String call, long got, long want) {
        CHECK.due(call, got, want);
    }

    private static void due(String call, boolean got, boolean want) {
        CHECK.due(call, got, want);
    }

    private static void areIn(PrizeDesk x, int... want) {
        int in = 0;
        for (int b = 0; b < want.length; b++) {
            due("look(" + b + ", 0)", x.look(b, 0), want[b]);
            in += want[b];
        }
        due("count(1)", x.count(1), in);
    }

    private static void newDesk() {
        CHECK.sentence("no BOOKS, seven JUDGES without KIN, FRIENDS, MARKS, BALLOTS.");
        PrizeDesk x = new PrizeDesk();
        for (int what : new int[] {0, 1, 2, 3, 4, 5, 10, 11}) {
            due("count(" + what + ")", x.count(what), 0);
        }
        for (int b = 0; b < 24; b++) {
            due("look(" + b + ", 5)", x.look(b, 5), NONE);
            due("third(" + b + ")", x.third(b), NONE);
        }
        for (int j = 0; j < 7; j++) {
            for (int k = 0; k < 7; k++) {
                due("met on", x.met(j, k, 0), j == k ? NONE : 0);
                due("apart", x.met(j, k, 2), j == k ? NONE : 1);
            }
        }
        for (int publisher = 0; publisher < 8; publisher++) {
            due("book", x.book(publisher, 100, 1), publisher);
            for (int j = 0; j < 7; j++) {
                due("mark of " + j, x.look(publisher, 10 + j), NONE);
                due("barred " + j, x.look(publisher, 20 + j), 0);
            }
            due("marks", x.look(publisher, 1), 0);
            due("called in", x.look(publisher, 3), 0);
            due("withdrawn", x.look(publisher, 4), 0);
        }
    }

    private static void newRules() {
        CHECK.sentence("RULES as at first;");
        PrizeDesk x = new PrizeDesk();
        String letters = "pqftbrdlsvc";
        int[] first = {50, 900, 0, 365, 3, 2, 30, 6, 3, 0, 0};
        for (int i = 0; i < first.length; i++) {
            due("rule(" + letters.charAt(i) + ")", x.rule(letters.charAt(i)), first[i]);
        }
    }

    private static void rangesOfBooks() {
        CHECK.sentence("BOOKS 0 to 23, each of a PUBLISHER (0 to 7), with PAGES (1 to 2000) and the DAY on which it "
                + "came out (0 to 400).");
        PrizeDesk x = new PrizeDesk();
        due("publisher 0, a page, day 0", x.book(0, 1, 0), 0);
        due("publisher 7, 2000 pages, day 400", x.book(7, 2000, 400), 1);
        int[][] want = {{0, 1, 0}, {7, 2000, 400}};
        for (int b = 0; b < 2; b++) {
            for (int i = 0; i < 3; i++) {
                due("look(" + b + ", " + (5 + i) + ")", x.look(b, 5 + i), want[b][i]);
            }
        }
        due("publisher -1", x.book(-1, 1, 0), NONE);
        due("publisher 8", x.book(8, 1, 0), NONE);
        due("no page", x.book(0, 0, 0), NONE);
        due("2001 pages", x.book(0, 2001, 0), NONE);
        due("day -1", x.book(0, 1, -1), NONE);
        due("day 401", x.book(0, 1, 401), NONE);
        for (int b = 2; b < 24; b++) {
            x.book(b % 8, 100 + b, b);
        }
        due("pages of the last", x.look(23, 6), 123);
        due("there is no book 24", x.look(24, 6), NONE);
    }

    private static void bookNumbers() {
        CHECK.sentence("A BOOK: its number;");
        PrizeDesk x = new PrizeDesk();
        for (int b = 0; b < 24; b++) {
            due("count(0)", x.count(0), b);
            due("not there yet", x.look(b, 5), NONE);
            due("book", x.book(b % 8, 1 + b, 2 * b), b);
            due("publisher", x.look(b, 5), b % 8);
            due("pages", x.look(b, 6), 1 + b);
            due("day", x.look(b, 7), 2 * b);
        }
    }

    private static void bookRefused() {
        CHECK.sentence("NONE: no such PUBLISHER, PAGES, DAY,");
        PrizeDesk x = new PrizeDesk();
        for (int publisher : Desks.outside(0, 7)) {
            due("publisher " + publisher, x.book(publisher, 100, 10), NONE);
        }
        for (int pages : Desks.outside(1, 2000)) {
            due("pages " + pages, x.book(0, pages, 10), NONE);
        }
        for (int day : Desks.outside(0, 400)) {
            due("day " + day, x.book(0, 100, day), NONE);
        }
        due("all of them", x.book(8, 0, 401), NONE);
        due("none came", x.count(0), 0);
        due("no number was used", x.book(0, 100, 10), 0);
    }

    private static void bookWhenFull() {
        CHECK.sentence("24 are there.");
        PrizeDesk x = Desks.with(23);
        due("the 24th", x.book(7, 100, 10), 23);
        due("the 25th", x.book(0, 100, 10), NONE);
        due("again", x.book(7, 2000, 400), NONE);
        due("count(0)", x.count(0), 24);
        due("the last is as told", x.look(23, 5), 7);
        due("the first is as told", x.look(0, 6), 100);
        for (int b = 0; b < 24; b++) {
            x.withdraw(b);
        }
        due("withdrawn ones are there", x.book(0, 100, 10), NONE);
    }

    private static void callOnce() {
        CHECK.sentence("A BOOK is CALLED IN: true;");
        PrizeDesk x = Desks.with(24);
        for (int b : new int[] {0, 12, 23}) {
            due("call(" + b + ")", x.call(b), true);
            due("look(" + b + ", 3)", x.look(b, 3), 1);
        }
        for (int b : new int[] {1, 11, 13, 22}) {
            due("look(" + b + ", 3)", x.look(b, 3), 0);
        }
        x.withdraw(5);
        due("a withdrawn one", x.call(5), true);
        due("called in", x.look(5, 3), 1);
    }

    private static void callRefused() {
        CHECK.sentence("`boolean call(int b)`: A BOOK is CALLED IN: true; false: no such one, it is.");
        PrizeDesk empty = new PrizeDesk();
        due("without books", empty.call(0), false);
        PrizeDesk x = Desks.with(5);
        for (int b : Desks.outside(0, 4)) {
            due("call(" + b + ")", x.call(b), false);
        }
        for (int b = 0; b < 5; b++) {
            due("not called in", x.look(b, 3), 0);
        }
        due("first time", x.call(4), true);
        due("it is", x.call(4), false);
        due("and stays so", x.look(4, 3), 1);
        due("24 of 24", Desks.with(24).call(24), false);
    }

    private static void withdrawOnce() {
        CHECK.sentence("A BOOK is WITHDRAWN: true;");
        PrizeDesk x = Desks.with(24);
        for (int b : new int[] {0, 12, 23}) {
            due("withdraw(" + b + ")", x.withdraw(b), true);
            due("look(" + b + ", 4)", x.look(b, 4), 1);
        }
        for (int b : new int[] {1, 11, 13, 22}) {
            due("look(" + b + ", 4)", x.look(b, 4), 0);
        }
        x.call(5);
        due("one that is called in", x.withdraw(5), true);
    }

    private static void withdrawRefused() {
        CHECK.sentence("`boolean withdraw(int b)`: A BOOK is WITHDRAWN: true; false: no such one, it is.");
        PrizeDesk empty = new PrizeDesk();
        due("without books", empty.withdraw(0), false);
        PrizeDesk x = Desks.with(5);
        for (int b : Desks.outside(0, 4)) {
            due("withdraw(" + b + ")", x.withdraw(b), false);
        }
        for (int b = 0; b < 5; b++) {
            due("not withdrawn", x.look(b, 4), 0);
        }
        due("first time", x.withdraw(4), true);
        due("it is", x.withdraw(4), false);
        due("and stays so", x.look(4, 4), 1);
        due("24 of 24", Desks.with(24).withdraw(24), false);
    }

    private static void calledOrWithdrawn() {
        CHECK.sentence("A BOOK may be CALLED IN, or WITHDRAWN (for good).");
        PrizeDesk x = Desks.with(2);
        x.withdraw(0);
        due("called in afterwards", x.call(0), true);
        due("still withdrawn", x.look(0, 4), 1);
        due("out", x.look(0, 0), 0);
        Desks.tell(x, "p0;q9999;f0;t9999;b9999");
        due("out by any rules", x.look(0, 0), 0);
        x.mark(1, 0, 100);
        due("out with a mark", x.look(0, 0), 0);
        x.book(0, 100, 10);
        due("out when others came", x.look(0, 0), 0);
        due("these are in", x.count(1), 2);
    }

    private static void withinRules() {
        CHECK.sentence("A BOOK is IN if PAGES and DAY are within RULES,");
        PrizeDesk x = new PrizeDesk();
        Desks.tell(x, "p100;q200;f10;t20");
        int[][] told = {{99, 15}, {100, 10}, {200, 20}, {201, 15}, {150, 9}, {150, 21}, {99, 9}, {201, 21}};
        for (int b = 0; b < told.length; b++) {
            x.book(b, told[b][0], told[b][1]);
        }
        areIn(x, 0, 1, 1, 0, 0, 0, 0, 0);
        for (int b = 0; b < told.length; b++) {
            x.call(b);
        }
        areIn(x, 0, 1, 1, 0, 0, 0, 0, 0);
        Desks.tell(x, "p99;q201;f9;t21");
        areIn(x, 1, 1, 1, 1, 1, 1, 1, 1);
    }

    private static void notWithdrawn() {
        CHECK.sentence("it is not WITHDRAWN,");
        PrizeDesk x = Desks.with(4);
        x.call(1);
        x.call(2);
        areIn(x, 1, 1, 1, 1);
        x.withdraw(0);
        x.withdraw(1);
        areIn(x, 0, 0, 1, 1);
    }

    private static void calledIn() {
        CHECK.sentence("and it is CALLED IN,");
        PrizeDesk x = Desks.withBooksOf(2, 6);
        Desks.tell(x, "b0");
        areIn(x, 0, 0, 0, 0, 0, 0);
        x.call(0);
        x.call(5);
        areIn(x, 1, 0, 0, 0, 0, 1);
        Desks.tell(x, "b1");
        areIn(x, 1, 1, 0, 0, 0, 1);
        for (int b = 1; b < 5; b++) {
            x.call(b);
        }
        areIn(x, 1, 1, 1, 1, 1, 1);
    }

    private static void fewerThanB() {
        CHECK.sentence("or fewer than b BOOKS of its PUBLISHER that are within RULES, not WITHDRAWN, and not CALLED "
                + "IN have lower numbers.");
        PrizeDesk x = new PrizeDesk();
        Desks.tell(x, "b2");
        x.book(5, 49, 10);
        x.book(5, 100, 366);
        x.book(5, 100, 10);
        x.book(4, 100, 10);
        x.book(5, 100, 10);
        x.book(5, 100, 10);
        x.book(5, 100, 10);
        areIn(x, 0, 0, 1, 1, 1, 0, 0);
        x.withdraw(2);
        areIn(x, 0, 0, 0, 1, 1, 1, 0);
        x.call(4);
        areIn(x, 0, 0, 0, 1, 1, 1, 1);
        x.book(5, 100, 10);
        areIn(x, 0, 0, 0, 1, 1, 1, 1, 0);
        x.call(7);
        areIn(x, 0, 0, 0, 1, 1, 1, 1, 1);
        x.book(5, 100, 10);
        areIn(x, 0, 0, 0, 1, 1, 1, 1, 1, 0);
        Desks.tell(x, "b2;p49");
        areIn(x, 1, 0, 0, 1, 1, 1, 0, 1, 0);
        Desks.tell(x, "b2;t366");
        areIn(x, 0, 1, 0, 1, 1, 1, 0, 1, 0);
    }

    private static void judges() {
        CHECK.sentence("JUDGES 0 to 6; 0 is THE CHAIR.");
        PrizeDesk x = Desks.with(1);
        for (int j = 0; j < 7; j++) {
            due("mark of " + j, x.mark(j, 0, 10 * j), true);
            due("of no other", x.look(0, 1), j + 1);
        }
        for (int j : Desks.outside(0, 6)) {
            due("judge " + j, x.mark(j, 0, 1), false);
        }
        due("seven marks", x.look(0, 2), 210);
        for (int who = 0; who < 7; who++) {
            due(who + " knows the winner", x.told(who, 0, 2, 0), who == 0 ? 0 : -2);
        }
    }

    private static void barred() {
        CHECK.sentence("A JUDGE is BARRED from BOOKS told as KIN, and from all of PUBLISHERS told as FRIENDS.");
        PrizeDesk x = Desks.withBooksOf(3, 3);
        x.book(4, 100, 10);
        x.kin(6, 0);
        x.kin(6, 3);
        x.friend(5, 3);
        for (int b = 0; b < 4; b++) {
            for (int j = 0; j < 7; j++) {
                boolean isBarred = j == 6 && (b == 0 || b == 3) || j == 5 && b < 3;
                due("look(" + b + ", " + (20 + j) + ")", x.look(b, 20 + j), isBarred ? 1 : 0);
                due("mark(" + j + ", " + b + ", 9)", x.mark(j, b, 9), !isBarred);
            }
        }
    }

    private static void kinOnce() {
        CHECK.sentence("BOOK b is KIN of JUDGE j: true;");
        PrizeDesk x = Desks.with(24);
        for (int j = 0; j < 7; j++) {
            due("the first", x.kin(j, 0), true);
            due("the last", x.kin(j, 23), true);
            due("barred", x.look(23, 20 + j), 1);
            due("not from the next", x.look(22, 20 + j), 0);
        }
        x.friend(2, 5);
        due("one of a friend", x.kin(2, 5), true);
        x.withdraw(9);
        due("one that is withdrawn", x.kin(2, 9), true);
    }

    private static void kinRefused() {
        CHECK.sentence("false: no such ones, it was told.");
        PrizeDesk x = Desks.with(5);
        for (int j : Desks.outside(0, 6)) {
            due("judge " + j, x.kin(j, 0), false);
        }
        for (int b : Desks.outside(0, 4)) {
            due("book " + b, x.kin(0, b), false);
        }
        for (int b = 0; b < 5; b++) {
            for (int j = 0; j < 7; j++) {
                due("barred", x.look(b, 20 + j), 0);
            }
        }
        due("told", x.kin(3, 4), true);
        due("it was told", x.kin(3, 4), false);
        due("not to another judge", x.kin(2, 4), true);
        due("nor of another book", x.kin(3, 3), true);
        x.friend(3, 4);
        due("it was told ahead of a friend", x.kin(3, 4), false);
        x.book(0, 100, 10);
        due("there is a book 5 now", x.kin(0, 5), true);
    }

    private static void kinMarks() {
        CHECK.sentence("(MARKS of it by that JUDGE are gone.)");
        PrizeDesk x = Desks.with(2);
        for (int j = 0; j < 7; j++) {
            x.mark(j, 0, 10 + j);
            x.mark(j, 1, 20 + j);
        }
        x.kin(6, 0);
        x.kin(0, 1);
        for (int j = 0; j < 7; j++) {
            due("of 0 by " + j, x.look(0, 10 + j), j == 6 ? NONE : 10 + j);
            due("of 1 by " + j, x.look(1, 10 + j), j == 0 ? NONE : 20 + j);
        }
        due("marks", x.look(0, 1), 6);
        due("their sum", x.look(0, 2), 75);
        due("met on none", x.met(0, 6, 0), 0);
        due("yet not apart", x.met(0, 6, 2), 0);
        due("a refused kin", x.kin(7, 0), false);
        due("takes none", x.look(0, 1), 6);
    }

    private static void friendOfAll() {
        CHECK.sentence("A PUBLISHER is a FRIEND of JUDGE j: likewise for all BOOKS of it, those that come later, "
                + "too.");
        PrizeDesk x = new PrizeDesk();
        x.book(0, 100, 10);
        x.book(7, 100, 10);
        x.book(7, 10, 10);
        for (int b = 0; b < 3; b++) {
            x.mark(4, b, 30 + b);
            x.mark(5, b, 40 + b);
        }
        x.withdraw(1);
        due("friend", x.friend(4, 7), true);
        int[] marks = {30, NONE, NONE};
        for (int b = 0; b < 3; b++) {
            due("mark of " + b, x.look(b, 14), marks[b]);
            due("barred from " + b, x.look(b, 24), b == 0 ? 0 : 1);
            due("another's mark of " + b, x.look(b, 15), 40 + b);
        }
        x.book(7, 100, 10);
        x.book(6, 100, 10);
        due("barred from a later one", x.look(3, 24), 1);
        due("no mark of it", x.mark(4, 3, 1), false);
        due("not from a later one of another", x.look(4, 24), 0);
        due("the other is not barred", x.look(3, 25), 0);
        due("one without books", x.friend(0, 2), true);
        x.book(2, 100, 10);
        due("barred when one comes", x.look(5, 20), 1);
    }

    private static void friendRefused() {
        CHECK.sentence("A PUBLISHER is a FRIEND of JUDGE j: likewise");
        PrizeDesk x = Desks.with(8);
        for (int j : Desks.outside(0, 6)) {
            due("judge " + j, x.friend(j, 0), false);
        }
        for (int publisher : Desks.outside(0, 7)) {
            due("publisher " + publisher, x.friend(0, publisher), false);
        }
        for (int b = 0; b < 8; b++) {
            for (int j = 0; j < 7; j++) {
                due("barred", x.look(b, 20 + j), 0);
            }
        }
        for (int j = 0; j < 7; j += 6) {
            for (int publisher = 0; publisher < 8; publisher += 7) {
                due("told", x.friend(j, publisher), true);
                due("it was told", x.friend(j, publisher), false);
            }
        }
        x.kin(3, 4);
        due("kin does not tell of the publisher", x.friend(3, 4), true);
    }

    /** Makes all judges from that one on kin of all books. */
    private static void barFrom(PrizeDesk x, int judge) {
        for (int b = 0; b < x.count(0); b++) {
            for (int j = judge; j < 7; j++) {
                x.kin(j, b);
            }
        }
    }

    private static void leastLoad() {
        CHECK.sentence("THE LEAST LOAD: the least k with which each BOOK that is IN can be given r JUDGES that are "
                + "not BARRED from it, no JUDGE more than k BOOKS");
        int[] books = {1, 3, 4, 7, 8, 14, 15, 21, 22, 24};
        int[][] want = {{1, 1, 1}, {1, 1, 2}, {1, 2, 2}, {1, 2, 3}, {2, 3, 4}, {2, 4, 6}, {3, 5, 7}, {3, 6, 9},
            {4, 7, 10}, {4, 7, 11}};
        for (int i = 0; i < books.length; i++) {
            for (int r = 1; r <= 3; r++) {
                PrizeDesk x = Desks.with(books[i]);
                Desks.tell(x, "r" + r);
                due(books[i] + " books, r" + r, x.load(), want[i][r - 1]);
            }
        }
        PrizeDesk one = Desks.with(24);
        Desks.tell(one, "r1");
        barFrom(one, 1);
        due("all to one", one.load(), 24);
        PrizeDesk three = Desks.with(24);
        Desks.tell(three, "r3");
        barFrom(three, 3);
        due("all to each of three", three.load(), 24);
        PrizeDesk uneven = Desks.with(7);
        Desks.tell(uneven, "r1");
        for (int j = 2; j < 7; j++) {
            for (int b = 0; b < 5; b++) {
                uneven.kin(j, b);
            }
        }
        due("five for two, the others elsewhere", uneven.load(), 3);
        uneven.kin(1, 0);
        uneven.kin(1, 1);
        due("0 reads two of them", uneven.load(), 3);
        uneven.kin(1, 2);
        uneven.kin(1, 3);
        due("0 reads four of them", uneven.load(), 4);
        uneven.withdraw(0);
        due("one is not in", uneven.load(), 3);
    }

    private static void loadOfNothing() {
        CHECK.sentence("(0 without BOOKS that are IN;");
        due("no books", new PrizeDesk().load(), 0);
        PrizeDesk x = Desks.with(2);
        barFrom(x, 0);
        x.withdraw(0);
        due("one that nobody may read", x.load(), NONE);
        x.withdraw(1);
        due("all withdrawn", x.load(), 0);
        PrizeDesk y = Desks.with(3);
        Desks.tell(y, "b0");
        due("none is in by the rules", y.load(), 0);
        y.call(2);
        due("one is called in", y.load(), 1);
    }

    private static void loadOfTooFew() {
        CHECK.sentence("none, if one has not r such JUDGES).");
        for (int r = 1; r <= 3; r++) {
            PrizeDesk x = Desks.with(9);
            Desks.tell(x, "r" + r);
            for (int j = r; j < 7; j++) {
                x.kin(j, 8);
            }
            due("just r" + r, x.load() > 0, true);
            x.friend(0, 0);
            due("one fewer", x.load(), NONE);
            if (r > 1) {
                Desks.tell(x, "r" + (r - 1));
                due("enough for fewer", x.load() > 0, true);
                Desks.tell(x, "r" + r);
            }
            x.withdraw(8);
            due("it is not in", x.load() > 0, true);
        }
    }

    private static void loadPromise() {
        CHECK.sentence("THE LEAST LOAD; NONE: there is none.");
        PrizeDesk x = Desks.with(7);
        due("fourteen by seven", x.load(), 2);
        x.book(7, 100, 10);
        due("sixteen by seven", x.load(), 3);
        for (int j = 1; j < 7; j++) {
            x.kin(j, 7);
        }
        due("one judge for two", x.load(), NONE);
        x.withdraw(7);
        due("fourteen again", x.load(), 2);
    }
}
