/** For each promise of the document what it says, worked out by hand: ordinary calls, edges, wrong ones. */
public final class PromiseTest {
    private static final int NONE = -1;
    private static final Check CHECK = new Check();

    private PromiseTest() {
    }

    public static void main(String[] args) {
        newObject();
        feed();
        rules();
        faults();
        rule();
        book();
        call();
        withdraw();
        kin();
        friend();
        load();
        loadMovesReaders();
        mark();
        met();
        third();
        longlist();
        ballot();
        lateBallots();
        close();
        telling();
        told();
        points();
        passedOver();
        pairs();
        rounds();
        tiesByChair();
        shortlistAndWinner();
        worth();
        paradox();
        look();
        count();
        CHECK.end();
    }

    private static void due(String call, long got, long want) {
        CHECK.due(call, got, want);
    }

    private static void due(String call, boolean got, boolean want) {
        CHECK.due(call, got, want);
    }

    private static void order(PrizeDesk x, int stage, int kind, int... books) {
        Desks.order(CHECK, x, stage, kind, books);
    }

    private static void longlistIs(PrizeDesk x, int... books) {
        Desks.list(CHECK, x, 0, books);
    }

    private static void newObject() {
        CHECK.in("promise 1");
        PrizeDesk x = new PrizeDesk();
        String letters = "pqftbrdlsvc";
        int[] first = {50, 900, 0, 365, 3, 2, 30, 6, 3, 0, 0};
        for (int i = 0; i < first.length; i++) {
            due("rule(" + letters.charAt(i) + ")", x.rule(letters.charAt(i)), first[i]);
        }
        for (int what : new int[] {0, 1, 2, 3, 4, 5, 10, 11}) {
            due("count(" + what + ")", x.count(what), 0);
        }
        due("met", x.met(0, 6, 0), 0);
        due("apart", x.met(0, 6, 2), 1);
        due("load", x.load(), 0);
        due("no winner", x.told(0, 0, 2, 0), NONE);
        due("book", x.book(0, 100, 1), 0);
        for (int j = 0; j < 7; j++) {
            due("mark of " + j, x.look(0, 10 + j), NONE);
            due("barred " + j, x.look(0, 20 + j), 0);
        }
        x.mark(0, 0, 1);
        due("another object", new PrizeDesk().count(0), 0);
    }

    private static void feed() {
        CHECK.in("promise 2");
        PrizeDesk x = Desks.with(24);
        due("first", x.feed(0x01020304, 0x05060708, 0x090A0B0C, 0, 0), 20);
        due("second", x.feed(0, 0, 0, 0, 0), 40);
        due("third", x.feed(-1, -1, -1, -1, -1), 60);
        due("fourth", x.feed(0, 0, 0, 0, 0), 80);
        due("fifth", x.feed(0, 0, 0, 0, 0), NONE);
        due("still", x.count(5), 80);
        due("the highest byte first", x.ballot(0, 0, 0, 12), true);
        due("used", x.count(5), 0);
        for (int b = 1; b <= 12; b++) {
            x.mark(1, b, 50);
        }
        Desks.tell(x, "l12;b3");
        due("n - i of the first", x.worth(0, 0, 1), 12);
        due("n - i of the last", x.worth(0, 0, 12), 1);
        x.feed(0xFF000000, 0, 0, 0, 0);
        due("a high byte is no letter", x.rules(1), 100);
        Desks.put(x, "p1;q2;f3;t4;b5;d6;p7;q8;f9");
        due("two feeds", x.count(5), 40);
        due("a text over two feeds", x.rules(26), 0);
        due("p", x.rule('p'), 7);
        due("f", x.rule('f'), 9);
    }

    private static void rules() {
        CHECK.in("promise 3");
        PrizeDesk x = new PrizeDesk();
        due("all letters", Desks.tell(x, "p1;q2;f3;t4;b5;r3;d7;l8;s9;v2;c1"), 0);
        String letters = "pqftbrdlsvc";
        int[] numbers = {1, 2, 3, 4, 5, 3, 7, 8, 9, 2, 1};
        for (int i = 0; i < numbers.length; i++) {
            due("rule(" + letters.charAt(i) + ")", x.rule(letters.charAt(i)), numbers[i]);
        }
        due("the later one counts", Desks.tell(x, "p9999;p0008"), 0);
        due("p", x.rule('p'), 8);
        due("not told: as at first", x.rule('q'), 900);
        due("v as at first", x.rule('v'), 0);
        x.feed(0x70390000, 0, 0, 0, 0);
        due("more than it has", x.rules(21), NONE);
        due("fewer than none", x.rules(-1), NONE);
        due("least int", x.rules(Integer.MIN_VALUE), NONE);
        due("the tape stays", x.count(5), 20);
        due("now", x.rules(2), 0);
        due("p", x.rule('p'), 9);
        due("the rest is gone, too", x.count(5), 0);
        x.feed(0x70390000, 0, 0, 0, 0);
        due("an empty text", x.rules(0), 100);
        due("empty then", x.count(5), 0);
        due("rules stay", x.rule('p'), 9);
        due("a fault", Desks.tell(x, "p1;q2;r4"), 507);
        due("nothing of it", x.rule('p'), 9);
        due("nor this", x.rule('q'), 900);
        due("the tape is empty", x.count(5), 0);
    }

    private static void faults() {
        CHECK.in("promise 3, faults");
        PrizeDesk x = new PrizeDesk();
        due("another letter", Desks.tell(x, "x1"), 100);
        due("a great letter", Desks.tell(x, "P1"), 100);
        due("a blank", Desks.tell(x, " p1"), 100);
        due("end behind ;", Desks.tell(x, "p1;"), 103);
        due("; behind ;", Desks.tell(x, "p1;;q1"), 103);
        due("no digit at the end", Desks.tell(x, "p"), 201);
        due("no digit", Desks.tell(x, "p;"), 201);
        due("no digit later", Desks.tell(x, "p1;qq"), 204);
        due("minus", Desks.tell(x, "p-1"), 201);
        due("fifth digit", Desks.tell(x, "p12345"), 305);
        due("fifth digit ahead of the number", Desks.tell(x, "r99999"), 305);
        due("fifth digit, noughts", Desks.tell(x, "p00001"), 305);
        due("behind a clause", Desks.tell(x, "p1q2"), 402);
        due("blank behind", Desks.tell(x, "p1 "), 402);
        due("comma behind", Desks.tell(x, "p12,q1"), 403);
        due("sign below 0", Desks.tell(x, "p1/"), 402);
        due("sign above 9", Desks.tell(x, "p1:"), 402);
        due("number ahead of what is behind", Desks.tell(x, "r4x"), 501);
        due("r0", Desks.tell(x, "r0"), 501);
        due("r4", Desks.tell(x, "r4"), 501);
        due("r1", Desks.tell(x, "r1"), 0);
        due("l0", Desks.tell(x, "l0"), 501);
        due("l13", Desks.tell(x, "l13"), 501);
        due("l12", Desks.tell(x, "l12"), 0);
        due("s0", Desks.tell(x, "s0"), 501);
        due("s13", Desks.tell(x, "s13"), 501);
        due("s0012", Desks.tell(x, "s0012"), 0);
        due("v3", Desks.tell(x, "v3"), 501);
        due("c2", Desks.tell(x, "c2"), 501);
        due("c1000", Desks.tell(x, "c1000"), 501);
        due("any number", Desks.tell(x, "p9999;q0;f9999;t0000;b9999;d9999"), 0);
        due("any other number", Desks.tell(x, "p0;q9999;f0;t9999;b0;d0"), 0);
        due("the first from the left", Desks.tell(x, "p1;r9;x"), 504);
        due("a wrong one that a later takes the place of", Desks.tell(x, "r9;r1"), 501);
        Desks.put(x, new int[80]);
        due("a byte 0", x.rules(80), 100);
    }

    private static void rule() {
        CHECK.in("promise 4");
        PrizeDesk x = new PrizeDesk();
        Desks.tell(x, "p77");
        due("p", x.rule(112), 77);
        due("P", x.rule(80), NONE);
        due("a", x.rule('a'), NONE);
        due("0", x.rule(0), NONE);
        due("-1", x.rule(-1), NONE);
        due("no byte", x.rule(112 + 256), NONE);
        due("no byte", x.rule(112 + 65536), NONE);
        due("no byte", x.rule(112 - 256), NONE);
    }

    private static void book() {
        CHECK.in("promise 5");
        PrizeDesk x = new PrizeDesk();
        due("publisher -1", x.book(-1, 100, 1), NONE);
        due("publisher 8", x.book(8, 100, 1), NONE);
        due("pages 0", x.book(0, 0, 1), NONE);
        due("pages 2001", x.book(0, 2001, 1), NONE);
        due("day -1", x.book(0, 100, -1), NONE);
        due("day 401", x.book(0, 100, 401), NONE);
        due("none is there", x.count(0), 0);
        due("least", x.book(0, 1, 0), 0);
        due("greatest", x.book(7, 2000, 400), 1);
        for (int b = 2; b < 24; b++) {
            due("book " + b, x.book(3, 100, b), b);
        }
        due("a 25th", x.book(3, 100, 1), NONE);
        due("24 are there", x.count(0), 24);
        due("the last one's day", x.look(23, 7), 23);
    }

    private static void call() {
        CHECK.in("promise 6");
        PrizeDesk x = new PrizeDesk();
        due("no book", x.call(0), false);
        for (int b = 0; b < 5; b++) {
            x.book(4, 100, 1);
        }
        due("fourth of a publisher", x.look(3, 0), 0);
        due("call", x.call(3), true);
        due("again", x.call(3), false);
        due("in now", x.look(3, 0), 1);
        due("takes no place", x.look(2, 0), 1);
        due("gives none", x.look(4, 0), 0);
        due("call one that is in", x.call(0), true);
        due("its place is free", x.look(4, 0), 1);
        due("number -1", x.call(-1), false);
        due("number 5", x.call(5), false);
        x.book(5, 10, 1);
        due("too thin", x.call(5), true);
        due("called in, but too thin", x.look(5, 0), 0);
        Desks.tell(x, "b0");
        due("just those called in", x.count(1), 2);
    }

    private static void withdraw() {
        CHECK.in("promise 7");
        PrizeDesk x = new PrizeDesk();
        for (int b = 0; b < 4; b++) {
            x.book(4, 100, 1);
        }
        x.call(1);
        due("withdraw", x.withdraw(1), true);
        due("again", x.withdraw(1), false);
        due("called in does not help", x.look(1, 0), 0);
        due("three others", x.count(1), 3);
        x.book(4, 100, 1);
        due("a fourth", x.look(4, 0), 0);
        due("withdraw", x.withdraw(0), true);
        due("its place is free", x.look(4, 0), 1);
        due("number -1", x.withdraw(-1), false);
        due("number 5", x.withdraw(5), false);
        due("number 32", x.withdraw(32), false);
        due("may still be called in", x.call(0), true);
        due("for good", x.look(0, 0), 0);
    }

    private static void kin() {
        CHECK.in("promise 8");
        PrizeDesk x = Desks.with(2);
        x.mark(3, 0, 40);
        x.mark(3, 1, 60);
        x.mark(4, 0, 50);
        due("kin", x.kin(3, 0), true);
        due("again", x.kin(3, 0), false);
        due("the mark is gone", x.look(0, 13), NONE);
        due("another book's stays", x.look(1, 13), 60);
        due("another judge's stays", x.look(0, 14), 50);
        due("barred", x.look(0, 23), 1);
        due("not from the other", x.look(1, 23), 0);
        due("not the other", x.look(0, 24), 0);
        due("no mark", x.mark(3, 0, 40), false);
        due("not met", x.met(3, 4, 0), 0);
        due("judge -1", x.kin(-1, 0), false);
        due("judge 7", x.kin(7, 0), false);
        due("book -1", x.kin(0, -1), false);
        due("book 2", x.kin(0, 2), false);
        x.friend(5, 0);
        due("kin of a friend's", x.kin(5, 0), true);
    }

    private static void friend() {
        CHECK.in("promise 9");
        PrizeDesk x = new PrizeDesk();
        x.book(2, 100, 1);
        x.book(3, 100, 1);
        x.book(2, 100, 1);
        x.mark(1, 0, 10);
        x.mark(1, 1, 20);
        x.mark(1, 2, 30);
        x.mark(2, 2, 35);
        due("friend", x.friend(1, 2), true);
        due("again", x.friend(1, 2), false);
        due("gone", x.look(0, 11), NONE);
        due("stays", x.look(1, 11), 20);
        due("gone, too", x.look(2, 11), NONE);
        due("another judge's stays", x.look(2, 12), 35);
        due("barred", x.look(2, 21), 1);
        due("not from others", x.look(1, 21), 0);
        x.book(2, 100, 1);
        due("one that came later", x.look(3, 21), 1);
        due("no mark of it", x.mark(1, 3, 5), false);
        due("publisher -1", x.friend(0, -1), false);
        due("publisher 8", x.friend(0, 8), false);
        due("judge -1", x.friend(-1, 0), false);
        due("judge 7", x.friend(7, 0), false);
        due("a publisher without books", x.friend(0, 7), true);
        x.kin(4, 1);
        due("friend of a kin's publisher", x.friend(4, 3), true);
    }

    private static void load() {
        CHECK.in("promise 10");
        PrizeDesk x = Desks.with(7);
        due("14 readings, 7 judges", x.load(), 2);
        x.book(7, 100, 1);
        due("16 readings", x.load(), 3);
        Desks.tell(x, "r3");
        due("24 readings", x.load(), 4);
        Desks.tell(x, "r1");
        due("8 readings", x.load(), 2);
        x.withdraw(7);
        due("7 readings", x.load(), 1);
        for (int j = 1; j < 7; j++) {
            x.kin(j, 0);
            x.kin(j, 1);
        }
        due("two that just one may read", x.load(), 2);
        Desks.tell(x, "r2");
        due("not two for it", x.load(), NONE);
        x.withdraw(0);
        due("nor for the other", x.load(), NONE);
        x.withdraw(1);
        due("ten readings of five", x.load(), 2);
        Desks.tell(x, "p2000");
        due("no book is in", x.load(), 0);
    }

    /** Two books for judges 0 to 2, four for 0 to 3: 12 readings by four, not three each as 3 takes four at most. */
    private static void loadMovesReaders() {
        CHECK.in("promise 10, moving");
        PrizeDesk x = Desks.with(6);
        for (int b = 0; b < 6; b++) {
            for (int j = 4; j < 7; j++) {
                x.kin(j, b);
            }
        }
        x.kin(3, 0);
        x.kin(3, 1);
        due("three each", x.load(), 3);
        x.kin(3, 2);
        x.kin(3, 3);
        due("3 reads two, ten by three", x.load(), 4);
        x.kin(0, 0);
        x.kin(0, 1);
        x.kin(0, 2);
        due("1, 2 read these three", x.load(), 4);
        x.kin(0, 3);
        due("and four", x.load(), 4);
        x.kin(0, 4);
        due("and 4 with 3", x.load(), 5);
    }

    private static void mark() {
        CHECK.in("promise 11");
        PrizeDesk x = Desks.with(2);
        due("0", x.mark(0, 0, 0), true);
        due("100", x.mark(6, 1, 100), true);
        due("-1", x.mark(0, 1, -1), false);
        due("101", x.mark(0, 1, 101), false);
        due("judge -1", x.mark(-1, 0, 5), false);
        due("judge 7", x.mark(7, 0, 5), false);
        due("book -1", x.mark(0, -1, 5), false);
        due("book 2", x.mark(0, 2, 5), false);
        due("a mark of 0 is one", x.look(0, 1), 1);
        due("anew", x.mark(0, 0, 30), true);
        due("30", x.look(0, 10), 30);
        due("just one", x.look(0, 1), 1);
        x.kin(0, 1);
        due("barred", x.mark(0, 1, 5), false);
        x.friend(1, 0);
        due("barred by a friend", x.mark(1, 0, 5), false);
        x.withdraw(0);
        due("withdrawn", x.mark(2, 0, 5), true);
    }

    private static void met() {
        CHECK.in("promise 12");
        PrizeDesk x = Desks.with(6);
        x.mark(0, 0, 10);
        x.mark(1, 0, 11);
        due("one less", x.met(0, 1, 1), -1);
        due("one more", x.met(1, 0, 1), 1);
        x.mark(1, 1, 90);
        x.mark(2, 1, 20);
        x.mark(2, 2, 20);
        x.mark(3, 2, 20);
        x.mark(5, 4, 1);
        x.mark(6, 4, 2);
        due("0 and 3 have not met", x.met(0, 3, 0), 0);
        due("sum of none", x.met(0, 3, 1), 0);
        due("a row leads there", x.met(0, 3, 2), 0);
        due("and back", x.met(3, 0, 2), 0);
        due("not to these", x.met(0, 5, 2), 1);
        due("these met", x.met(5, 6, 2), 0);
        due("4 has no marks", x.met(4, 0, 2), 1);
        x.withdraw(0);
        due("withdrawn, yet met", x.met(0, 1, 0), 1);
        x.mark(0, 1, 50);
        due("two", x.met(0, 1, 0), 2);
        due("less 1, less 40", x.met(0, 1, 1), -41);
        x.kin(2, 2);
        due("the row is cut", x.met(0, 3, 2), 1);
        due("oneself", x.met(1, 1, 0), NONE);
        due("oneself apart", x.met(1, 1, 2), NONE);
        due("judge -1", x.met(-1, 0, 0), NONE);
        due("judge 7", x.met(7, 0, 2), NONE);
        due("other judge -1", x.met(0, -1, 0), NONE);
        due("other judge 7", x.met(0, 7, 0), NONE);
        due("what 3", x.met(0, 1, 3), NONE);
        due("what -1", x.met(0, 1, -1), NONE);
    }

    private static void third() {
        CHECK.in("promise 13");
        PrizeDesk x = Desks.with(5);
        x.mark(0, 1, 10);
        x.mark(1, 1, 40);
        due("30 apart is not more", x.third(0), NONE);
        x.mark(1, 1, 41);
        due("31 is", x.third(0), 1);
        x.mark(3, 4, 100);
        x.mark(6, 4, 0);
        x.mark(2, 0, 0);
        due("one mark wants none", x.third(0), 1);
        due("the next", x.third(1), 4);
        due("no more", x.third(2), NONE);
        due("-1", x.third(-1), NONE);
        due("24", x.third(24), NONE);
        due("how many", x.count(2), 2);
        x.mark(4, 1, 20);
        due("a third told it", x.third(0), 4);
        Desks.tell(x, "d100");
        due("not more than 100", x.third(0), NONE);
        Desks.tell(x, "d0");
        due("4 again", x.third(0), 4);
        x.withdraw(4);
        due("not in", x.third(0), NONE);
        x.mark(1, 2, 7);
        x.mark(2, 2, 7);
        due("alike", x.third(0), NONE);
        x.mark(1, 2, 0);
        x.mark(2, 2, 0);
        due("both 0", x.third(0), NONE);
        x.mark(1, 2, 100);
        x.mark(2, 2, 100);
        due("both 100", x.third(0), NONE);
    }

    private static void longlist() {
        CHECK.in("the longlist");
        PrizeDesk x = Desks.with(8);
        x.mark(0, 0, 66);
        x.mark(0, 1, 66);
        x.mark(1, 1, 67);
        x.mark(2, 1, 67);
        longlistIs(x, 1, 0);
        x.mark(1, 0, 67);
        longlistIs(x, 1, 0);
        x.mark(2, 0, 67);
        longlistIs(x, 0, 1);
        x.mark(5, 5, 0);
        longlistIs(x, 0, 1, 5);
        x.mark(0, 6, 80);
        x.mark(0, 7, 80);
        x.mark(1, 7, 80);
        longlistIs(x, 7, 6, 0, 1, 5);
        x.withdraw(7);
        longlistIs(x, 6, 0, 1, 5);
        x.mark(0, 2, 1);
        x.mark(0, 3, 1);
        longlistIs(x, 6, 0, 1, 2, 3, 5);
        x.mark(0, 4, 1);
        longlistIs(x, 6, 0, 1, 2, 3, 4);
        Desks.tell(x, "l1");
        longlistIs(x, 6);
        Desks.tell(x, "l12");
        longlistIs(x, 6, 0, 1, 2, 3, 4, 5);
        x.kin(0, 6);
        longlistIs(x, 0, 1, 2, 3, 4, 5);
    }

    private static void ballot() {
        CHECK.in("promise 14");
        PrizeDesk x = Desks.withMarked(6);
        Desks.put(x, new int[] {0, 1, 2, 3, 4, 5});
        due("judge -1", x.ballot(-1, 0, 0, 1), false);
        due("judge 7", x.ballot(7, 0, 0, 1), false);
        due("stage -1", x.ballot(0, -1, 0, 1), false);
        due("stage 2", x.ballot(0, 2, 0, 1), false);
        due("day -1", x.ballot(0, 0, -1, 1), false);
        due("day 401", x.ballot(0, 0, 401, 1), false);
        due("n -1", x.ballot(0, 0, 0, -1), false);
        due("n 13", x.ballot(0, 0, 0, 13), false);
        due("the tape stays", x.count(5), 20);
        due("day 400", x.ballot(0, 0, 400, 6), true);
        due("the tape is empty", x.count(5), 0);
        due("it has not so many", x.ballot(0, 0, 400, 1), false);
        due("none of none", x.ballot(1, 1, 0, 0), true);
        due("one that counts", x.count(10), 1);
        due("an empty one counts, too", x.count(11), 1);
        order(x, 0, 0, 0, 1, 2, 3, 4, 5);
        due("one twice", Desks.vote(x, 0, 0, 5, 4, 5), false);
        due("the tape is gone by that", x.count(5), 0);
        due("no such book", Desks.vote(x, 0, 0, 5, 6), false);
        due("the tape is gone by that, too", x.count(5), 0);
        due("a high byte", Desks.vote(x, 0, 0, 255), false);
        due("the former stays", x.worth(0, 0, 0), 6);
        due("anew", Desks.vote(x, 0, 0, 5, 4), true);
        due("in its place", x.worth(0, 0, 0), 0);
        due("first of six", x.worth(0, 0, 5), 6);
        Desks.put(x, new int[] {3, 3, 3});
        due("just the first", x.ballot(0, 0, 1, 1), true);
        due("the rest is gone, too", x.count(5), 0);
        Desks.put(x, new int[] {3});
        due("empty with a tape", x.ballot(0, 0, 1, 0), true);
        due("the tape is empty then", x.count(5), 0);
        due("the empty one took its place", x.worth(0, 0, 3), 0);
        x.withdraw(2);
        due("withdrawn ones may stand on it", Desks.vote(x, 0, 0, 2, 1), true);
        due("first of five", x.worth(0, 0, 1), 5);
    }

    private static void lateBallots() {
        CHECK.in("promise 14, late");
        PrizeDesk x = Desks.withMarked(3);
        x.close(0, 10);
        Desks.put(x, new int[] {2});
        x.ballot(3, 0, 10, 1);
        due("on the day", x.worth(0, 0, 2), 3);
        Desks.put(x, new int[] {1});
        due("late", x.ballot(3, 0, 11, 1), true);
        due("does not count", x.worth(0, 0, 1), 0);
        due("nor does the former", x.worth(0, 0, 2), 0);
        due("none counts", x.count(10), 0);
        x.close(0, 11);
        due("counts now", x.worth(0, 0, 1), 3);
        due("the other stage has its own", x.count(11), 0);
    }

    private static void close() {
        CHECK.in("promise 15");
        PrizeDesk x = Desks.withMarked(3);
        Desks.put(x, new int[] {1});
        x.ballot(0, 0, 400, 1);
        due("400 at first", x.count(10), 1);
        Desks.put(x, new int[] {1});
        x.ballot(0, 1, 0, 1);
        due("stage -1", x.close(-1, 5), false);
        due("stage 2", x.close(2, 5), false);
        due("day -1", x.close(0, -1), false);
        due("day 401", x.close(0, 401), false);
        due("nothing changed", x.count(10), 1);
        due("close", x.close(0, 399), true);
        due("behind it", x.count(10), 0);
        due("the other", x.close(1, 0), true);
        due("not behind it", x.count(11), 1);
        due("again", x.close(0, 400), true);
        due("counts again", x.count(10), 1);
    }

    private static void telling() {
        CHECK.in("promise 16");
        PrizeDesk x = Desks.withMarked(3);
        due("list -1", x.telling(-1, 5), false);
        due("list 3", x.telling(3, 5), false);
        due("day -1", x.telling(0, -1), false);
        due("day 401", x.telling(0, 401), false);
        for (int list = 0; list < 3; list++) {
            due("400 at first", x.told(7, 399, list, 0), -2);
            due("on 400", x.told(7, 400, list, 0), 0);
            due("telling", x.telling(list, 100 + list), true);
            due("ahead", x.told(7, 99 + list, list, 0), -2);
            due("on it", x.told(7, 100 + list, list, 0), 0);
            due("behind it", x.told(7, 400, list, 0), 0);
        }
        due("day 0", x.telling(2, 0), true);
        due("told on 0", x.told(7, 0, 2, 0), 0);
        due("the others stay", x.told(7, 100, 1, 0), -2);
    }

    private static void told() {
        CHECK.in("promise 17");
        PrizeDesk x = Desks.withMarked(4);
        due("the chair at any time", x.told(0, 0, 1, 2), 2);
        due("the winner, too", x.told(0, 0, 2, 0), 0);
        due("just one winner", x.told(0, 0, 2, 1), NONE);
        due("winner -1", x.told(0, 0, 2, -1), NONE);
        due("three on the shortlist", x.told(0, 0, 1, 3), NONE);
        due("shortlist -1", x.told(0, 0, 1, -1), NONE);
        due("longlist -1", x.told(0, 0, 0, -1), NONE);
        due("four on the longlist", x.told(0, 0, 0, 4), NONE);
        for (int j = 1; j < 7; j++) {
            due("a judge, the longlist", x.told(j, 0, 0, 3), 3);
            due("a judge, the shortlist", x.told(j, 399, 1, 0), -2);
            due("a judge, the winner", x.told(j, 399, 2, 0), -2);
        }
        due("anybody else", x.told(7, 399, 0, 3), -2);
        due("not even that there is none", x.told(7, 399, 0, 9), -2);
        due("on its day that there is none", x.told(7, 400, 0, 9), NONE);
        due("who -1", x.told(-1, 400, 0, 0), -2);
        due("who 8", x.told(8, 400, 0, 0), -2);
        due("day -1", x.told(0, -1, 0, 0), -2);
        due("day 401", x.told(0, 401, 0, 0), -2);
        due("list -1", x.told(0, 400, -1, 0), -2);
        due("list 3", x.told(0, 400, 3, 0), -2);
        due("no winner without books", new PrizeDesk().told(0, 0, 2, 0), NONE);
    }

    private static void points() {
        CHECK.in("promise 18, points");
        PrizeDesk x = Desks.withMarked(4);
        order(x, 0, 0, 0, 1, 2, 3);
        Desks.vote(x, 1, 0, 3, 2);
        Desks.vote(x, 2, 0, 2, 3, 1);
        Desks.vote(x, 3, 0, 1);
        order(x, 0, 0, 2, 3, 1, 0);
        due("points of 2: 3 + 4", x.worth(0, 0, 2), 7);
        due("points of 3: 4 + 3", x.worth(0, 0, 3), 7);
        due("points of 1: 2 + 4", x.worth(0, 0, 1), 6);
        due("points of 0", x.worth(0, 0, 0), 0);
        due("-1", x.counted(0, 0, -1), NONE);
        due("stage -1", x.counted(-1, 0, 0), NONE);
        due("stage 2", x.counted(2, 0, 0), NONE);
        due("kind -1", x.counted(0, -1, 0), NONE);
        due("kind 3", x.counted(0, 3, 0), NONE);
        Desks.tell(x, "v2");
        due("whatever the rules say", x.counted(0, 0, 0), 2);
    }

    private static void passedOver() {
        CHECK.in("promise 18, passed over");
        PrizeDesk x = Desks.withMarked(4);
        Desks.vote(x, 1, 0, 3, 2, 1, 0);
        x.kin(1, 3);
        due("barred: no points", x.worth(0, 0, 3), 0);
        due("the next is first", x.worth(0, 0, 2), 4);
        due("barred: behind by pairs", x.worth(0, 1, 3), 997);
        due("goes out first", x.worth(0, 2, 3), 1);
        due("first by rounds", x.counted(0, 2, 0), 2);
        x.withdraw(2);
        due("three on the list", x.worth(0, 0, 1), 3);
        due("not on the list", x.worth(0, 0, 2), NONE);
        x.friend(1, 1);
        due("a friend's", x.worth(0, 0, 1), 0);
        due("what is left", x.worth(0, 0, 0), 3);
    }

    private static void pairs() {
        CHECK.in("promise 18, pairs");
        PrizeDesk x = Desks.withMarked(4);
        Desks.vote(x, 0, 0, 1, 2);
        Desks.vote(x, 1, 0, 1, 3);
        Desks.vote(x, 2, 0, 2, 1);
        due("1 beats all", x.worth(0, 1, 1), 1003);
        due("2 beats 0, 3 and loses to 1", x.worth(0, 1, 2), 1001);
        due("3 beats 0", x.worth(0, 1, 3), 999);
        due("0 beats none", x.worth(0, 1, 0), 997);
        order(x, 0, 1, 1, 2, 3, 0);
        Desks.vote(x, 3, 0, 3, 0);
        due("2 and 3 are even", x.worth(0, 1, 2), 1000);
        due("3 with 2 even", x.worth(0, 1, 3), 1000);
        order(x, 0, 1, 1, 2, 3, 0);
        Desks.vote(x, 3, 0);
        due("an empty ballot moves nothing", x.worth(0, 1, 2), 1001);
    }

    /** First 0: 2, 1: 2, 2: 1, 3: 2 ballots; 2 goes out, its ballot to 3; then 1 (last of 0, 1), to 0 and 3. */
    private static void rounds() {
        CHECK.in("promise 18, rounds");
        PrizeDesk x = Desks.withMarked(4);
        Desks.vote(x, 0, 0, 0, 1);
        Desks.vote(x, 1, 0, 0);
        Desks.vote(x, 2, 0, 1, 2, 0);
        Desks.vote(x, 3, 0, 1, 3);
        Desks.vote(x, 4, 0, 2, 3);
        Desks.vote(x, 5, 0, 3);
        Desks.vote(x, 6, 0, 3, 2);
        order(x, 0, 2, 3, 0, 1, 2);
        due("2 in round 1", x.worth(0, 2, 2), 1);
        due("1 in round 2", x.worth(0, 2, 1), 2);
        due("0 in round 3", x.worth(0, 2, 0), 3);
        due("3 is left", x.worth(0, 2, 3), 4);
        Desks.vote(x, 6, 0, 0);
        due("now 3 of 2, 3 goes out", x.worth(0, 2, 3), 1);
        PrizeDesk y = Desks.withMarked(1);
        due("one alone is left", y.worth(0, 2, 0), 1);
        order(y, 0, 2, 0);
        order(Desks.withMarked(3), 0, 2, 0, 1, 2);
    }

    private static void tiesByChair() {
        CHECK.in("promise 18, ties");
        PrizeDesk x = Desks.withMarked(4);
        Desks.vote(x, 0, 0, 3, 1);
        Desks.vote(x, 1, 0, 1, 3);
        Desks.vote(x, 2, 0, 2, 0);
        Desks.vote(x, 3, 0, 0, 2);
        order(x, 0, 0, 0, 1, 2, 3);
        order(x, 0, 1, 0, 1, 2, 3);
        order(x, 0, 2, 0, 1, 2, 3);
        Desks.tell(x, "c1");
        order(x, 0, 0, 3, 1, 0, 2);
        order(x, 0, 1, 3, 1, 0, 2);
        order(x, 0, 2, 3, 0, 1, 2);
        x.close(0, 9);
        order(x, 0, 0, 0, 1, 2, 3);
        x.close(0, 10);
        x.kin(0, 3);
        due("1 is first on the chair's now", x.counted(0, 0, 0), 1);
        due("the chair's other ballot does not tell", Desks.vote(x, 0, 1, 2), true);
        due("still", x.counted(0, 0, 0), 1);
        Desks.vote(x, 0, 0, 2);
        Desks.vote(x, 1, 0, 3);
        due("2 on the chair's is ahead of 0", x.counted(0, 0, 0), 2);
        due("then 0", x.counted(0, 0, 1), 0);
    }

    private static void shortlistAndWinner() {
        CHECK.in("the shortlist and the winner");
        PrizeDesk x = Desks.withMarked(5);
        Desks.vote(x, 0, 0, 4, 3);
        Desks.vote(x, 1, 0, 4, 2);
        Desks.vote(x, 2, 0, 3, 2);
        Desks.vote(x, 3, 0, 1);
        due("points: 4 10, 3 9, 2 8, 1 5", x.told(0, 0, 1, 0), 4);
        due("second", x.told(0, 0, 1, 1), 3);
        due("third", x.told(0, 0, 1, 2), 2);
        due("three", x.count(4), 3);
        due("winner without ballots", x.told(0, 0, 2, 0), 2);
        due("stage 1 is of the shortlist", x.worth(1, 0, 1), NONE);
        Desks.vote(x, 5, 1, 1, 3, 2);
        due("1 is passed over: 3 has 3", x.worth(1, 0, 3), 3);
        due("2 has 2", x.worth(1, 0, 2), 2);
        due("winner", x.told(0, 0, 2, 0), 3);
        order(x, 1, 0, 3, 2, 4);
        due("five still in stage 0", x.counted(0, 0, 4), 0);
        Desks.tell(x, "v2;s2");
        due("rounds: 0 out, 2 out, then 3 of 1, 3", x.told(0, 0, 1, 0), 4);
        due("1 is second", x.told(0, 0, 1, 1), 1);
        due("no third", x.told(0, 0, 1, 2), NONE);
        due("two", x.count(4), 2);
        due("the ballot goes to 1", x.told(0, 0, 2, 0), 1);
        Desks.tell(x, "v1;s1");
        due("pairs: 4 beats all", x.told(0, 0, 1, 0), 4);
        due("one alone", x.told(0, 0, 2, 0), 4);
        Desks.tell(x, "s12");
        due("no more than the longlist", x.count(4), 5);
        Desks.tell(x, "l2;s12");
        due("that has two now", x.count(4), 2);
    }

    private static void worth() {
        CHECK.in("promise 19");
        PrizeDesk x = Desks.withMarked(3);
        x.book(5, 100, 1);
        Desks.vote(x, 0, 0, 1);
        due("points", x.worth(0, 0, 1), 3);
        due("score", x.worth(0, 1, 1), 1002);
        due("round", x.worth(0, 2, 1), 3);
        due("without a mark", x.worth(0, 0, 3), NONE);
        due("no book", x.worth(0, 0, 4), NONE);
        due("-1", x.worth(0, 0, -1), NONE);
        due("32", x.worth(0, 0, 33), NONE);
        due("stage -1", x.worth(-1, 0, 1), NONE);
        due("stage 2", x.worth(2, 0, 1), NONE);
        due("kind -1", x.worth(0, -1, 1), NONE);
        due("kind 3", x.worth(0, 3, 1), NONE);
        due("stage 1", x.worth(1, 0, 1), 0);
        due("stage 1, score", x.worth(1, 1, 1), 1000);
        due("stage 1, 2 goes out first", x.worth(1, 2, 2), 1);
    }

    private static void paradox() {
        CHECK.in("promise 20");
        PrizeDesk x = Desks.withMarked(6);
        due("none", x.paradox(0, 0), NONE);
        Desks.vote(x, 0, 0, 5, 3, 4);
        Desks.vote(x, 1, 0, 3, 4, 5);
        Desks.vote(x, 2, 0, 4, 5, 3);
        due("3 beats 4", x.paradox(0, 0), 3);
        due("4 beats 5", x.paradox(0, 1), 4);
        due("5 beats 3", x.paradox(0, 2), 5);
        Desks.vote(x, 0, 0, 4, 3, 5);
        Desks.vote(x, 1, 0, 5, 4, 3);
        Desks.vote(x, 2, 0, 3, 5, 4);
        due("3 beats 5", x.paradox(0, 1), 5);
        due("5 beats 4", x.paradox(0, 2), 4);
        due("what 3", x.paradox(0, 3), NONE);
        due("what -1", x.paradox(0, -1), NONE);
        due("stage 2", x.paradox(2, 0), NONE);
        due("stage -1", x.paradox(-1, 0), NONE);
        due("stage 1 has no ballots", x.paradox(1, 0), NONE);
        Desks.vote(x, 0, 1, 3, 4, 5);
        Desks.vote(x, 1, 1, 4, 5, 3);
        Desks.vote(x, 2, 1, 5, 3, 4);
        due("stage 1", x.paradox(1, 1), 4);
        Desks.tell(x, "v2");
        due("rounds leave 3, 4 and 0, 1 or 2 out", x.paradox(1, 0), 3);
        x.withdraw(4);
        due("broken", x.paradox(0, 0), NONE);
        due("broken, too", x.paradox(1, 0), NONE);
    }

    private static void look() {
        CHECK.in("promise 21");
        PrizeDesk x = new PrizeDesk();
        x.book(6, 77, 88);
        x.book(7, 49, 400);
        x.mark(2, 0, 33);
        x.mark(5, 0, 100);
        x.kin(4, 0);
        x.call(1);
        x.withdraw(1);
        int[] first = {1, 2, 133, 0, 0, 6, 77, 88, NONE, NONE};
        int[] second = {0, 0, 0, 1, 1, 7, 49, 400, NONE, NONE};
        for (int what = 0; what < 10; what++) {
            due("look(0, " + what + ")", x.look(0, what), first[what]);
            due("look(1, " + what + ")", x.look(1, what), second[what]);
        }
        for (int j = 0; j < 7; j++) {
            due("mark of " + j, x.look(0, 10 + j), j == 2 ? 33 : j == 5 ? 100 : NONE);
            due("barred " + j, x.look(0, 20 + j), j == 4 ? 1 : 0);
        }
        for (int what : new int[] {-1, 17, 18, 19, 27, 30, Integer.MIN_VALUE, Integer.MAX_VALUE}) {
            due("look(0, " + what + ")", x.look(0, what), NONE);
        }
        due("book -1", x.look(-1, 0), NONE);
        due("book 2", x.look(2, 0), NONE);
        Desks.tell(x, "p78");
        due("too thin", x.look(0, 0), 0);
        Desks.tell(x, "q76");
        due("too thick", x.look(0, 0), 0);
        Desks.tell(x, "f89");
        due("too early", x.look(0, 0), 0);
        Desks.tell(x, "t87");
        due("too late", x.look(0, 0), 0);
        Desks.tell(x, "p77;q77;f88;t88;b1");
        due("just so", x.look(0, 0), 1);
    }

    private static void count() {
        CHECK.in("promise 22");
        PrizeDesk x = Desks.withMarked(8);
        x.book(0, 10, 1);
        x.mark(0, 0, 90);
        Desks.vote(x, 0, 0, 1);
        Desks.vote(x, 1, 0, 1);
        Desks.vote(x, 1, 1, 1);
        x.feed(0, 0, 0, 0, 0);
        due("books", x.count(0), 9);
        due("in", x.count(1), 8);
        due("for a third", x.count(2), 1);
        due("longlist", x.count(3), 6);
        due("shortlist", x.count(4), 3);
        due("bytes", x.count(5), 20);
        due("ballots, stage 0", x.count(10), 2);
        due("ballots, stage 1", x.count(11), 1);
        for (int what : new int[] {-1, 6, 7, 8, 9, 12, Integer.MIN_VALUE, Integer.MAX_VALUE}) {
            due("count(" + what + ")", x.count(what), NONE);
        }
    }
}
