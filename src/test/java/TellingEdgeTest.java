/** Days of telling, what is told, looked up, counted, promises 16, 17, 21, 22: for each sentence a test of its own. */
public final class TellingEdgeTest {
    private static final int NONE = -1;
    private static final int NOT_YET = -2;
    private static final Check CHECK = new Check();

    private TellingEdgeTest() {
    }

    public static void main(String[] args) {
        daysOfTelling();
        nobodyAhead();
        judgesAndLonglist();
        tellingPromise();
        tellingRefused();
        toldLists();
        toldNone();
        toldNotYet();
        toldNoSuchOnes();
        lookInAndMarks();
        lookCalledAndOn();
        lookMarks();
        lookBarred();
        lookOthers();
        countBooks();
        countLists();
        countTape();
        countBallots();
        countOthers();
        theConstant();
        ownMemory();
        lastCall();
        CHECK.end();
    }

    private static void due(String call, long got, long want) {
        CHECK.due(call, got, want);
    }

    private static void due(String call, boolean got, boolean want) {
        CHECK.due(call, got, want);
    }

    private static void daysOfTelling() {
        CHECK.sentence("DAYS of TELLING (0 to 400; 400 at first) of THE LONGLIST, THE SHORTLIST, THE WINNER:");
        PrizeDesk x = Desks.withMarked(2);
        for (int list = 0; list < 3; list++) {
            due("399", x.told(7, 399, list, 0), NOT_YET);
            due("400", x.told(7, 400, list, 0), 0);
        }
        for (int list = 0; list < 3; list++) {
            due("to 0", x.telling(list, 0), true);
            due("on 0", x.told(7, 0, list, 0), 0);
            due("to 400", x.telling(list, 400), true);
            due("on 399", x.told(7, 399, list, 0), NOT_YET);
            due("to -1", x.telling(list, -1), false);
            due("to 401", x.telling(list, 401), false);
            due("on 400", x.told(7, 400, list, 0), 0);
        }
    }

    private static void nobodyAhead() {
        CHECK.sentence("nobody but THE CHAIR is told a list on a DAY ahead of its own;");
        PrizeDesk x = Desks.withMarked(3);
        int[] days = {100, 200, 300};
        for (int list = 0; list < 3; list++) {
            x.telling(list, days[list]);
        }
        for (int list = 0; list < 3; list++) {
            for (int day : new int[] {0, days[list] - 1, days[list], days[list] + 1, 400}) {
                boolean isAhead = day < days[list];
                due("the chair", x.told(0, day, list, 0), 0);
                due("anybody else", x.told(7, day, list, 0), isAhead ? NOT_YET : 0);
                for (int j = 1; j < 7 && list > 0; j++) {
                    due("judge " + j, x.told(j, day, list, 0), isAhead ? NOT_YET : 0);
                }
            }
        }
        due("the longlist on 250", x.told(7, 250, 0, 2), 2);
        due("the shortlist on 250", x.told(7, 250, 1, 2), 2);
        due("not the winner", x.told(7, 250, 2, 0), NOT_YET);
        x.telling(0, 400);
        due("the longlist behind the others", x.told(7, 399, 0, 0), NOT_YET);
        due("the winner is told before", x.told(7, 399, 2, 0), 0);
    }

    private static void judgesAndLonglist() {
        CHECK.sentence("who is a JUDGE is told THE LONGLIST at any time.");
        PrizeDesk x = Desks.withMarked(2);
        for (int who = 0; who < 8; who++) {
            for (int day : new int[] {0, 1, 399}) {
                due(who + " on " + day, x.told(who, day, 0, 1), who < 7 ? 1 : NOT_YET);
                due(who + " on " + day + ", shortlist", x.told(who, day, 1, 1), who == 0 ? 1 : NOT_YET);
                due(who + " on " + day + ", winner", x.told(who, day, 2, 0), who == 0 ? 0 : NOT_YET);
            }
        }
        x.kin(3, 1);
        due("of one from which they are barred, too", x.told(3, 0, 0, 1), 1);
    }

    private static void tellingPromise() {
        CHECK.sentence("The DAY of TELLING of a list (0 THE LONGLIST, 1 THE SHORTLIST, 2 THE WINNER): true;");
        for (int list = 0; list < 3; list++) {
            PrizeDesk x = Desks.withMarked(2);
            due("telling", x.telling(list, 50), true);
            for (int other = 0; other < 3; other++) {
                due("list " + other + " on 49", x.told(7, 49, other, 0), NOT_YET);
                due("list " + other + " on 50", x.told(7, 50, other, 0), other == list ? 0 : NOT_YET);
            }
            due("later", x.telling(list, 60), true);
            due("not any more", x.told(7, 59, list, 0), NOT_YET);
            due("the same again", x.telling(list, 60), true);
            due("earlier", x.telling(list, 40), true);
            due("on 40", x.told(7, 40, list, 0), 0);
        }
    }

    private static void tellingRefused() {
        CHECK.sentence("2 THE WINNER): true; false: no such ones.");
        PrizeDesk x = Desks.withMarked(2);
        for (int list = 0; list < 3; list++) {
            x.telling(list, 200);
            for (int day : Desks.outside(0, 400)) {
                due("day " + day, x.telling(list, day), false);
            }
        }
        for (int list : Desks.outside(0, 2)) {
            due("list " + list, x.telling(list, 10), false);
        }
        for (int list = 0; list < 3; list++) {
            due("199", x.told(7, 199, list, 0), NOT_YET);
            due("200", x.told(7, 200, list, 0), 0);
        }
    }

    private static void toldLists() {
        CHECK.sentence("The i-th BOOK of a list (0, 1; 2: i is 0) as told on a DAY to who (0 to 6: a JUDGE; 7: "
                + "anybody else);");
        PrizeDesk x = Desks.withMarked(5);
        for (int b = 0; b < 5; b++) {
            x.mark(6, b, 50 + b);
        }
        Desks.vote(x, 0, 0, 0, 1, 2, 3, 4);
        Desks.vote(x, 0, 1, 1);
        for (int who = 0; who < 8; who++) {
            for (int i = 0; i < 5; i++) {
                due("longlist, " + i, x.told(who, 400, 0, i), 4 - i);
            }
            for (int i = 0; i < 3; i++) {
                due("shortlist, " + i, x.told(who, 400, 1, i), i);
            }
            due("winner", x.told(who, 400, 2, 0), 1);
        }
        PrizeDesk y = Desks.withMarked(14);
        Desks.tell(y, "l12;s12");
        due("twelfth of the longlist", y.told(0, 0, 0, 11), 11);
        due("twelfth of the shortlist", y.told(0, 0, 1, 11), 11);
        due("no thirteenth of the longlist", y.told(0, 0, 0, 12), NONE);
        due("no thirteenth of the shortlist", y.told(0, 0, 1, 12), NONE);
    }

    private static void toldNone() {
        CHECK.sentence("anybody else); NONE: there is none such;");
        PrizeDesk x = Desks.withMarked(5);
        for (int who : new int[] {0, 3, 6, 7}) {
            for (int i : Desks.outside(0, 4)) {
                due("longlist, " + i, x.told(who, 400, 0, i), NONE);
            }
            for (int i : Desks.outside(0, 2)) {
                due("shortlist, " + i, x.told(who, 400, 1, i), NONE);
            }
            for (int i : Desks.outside(0, 0)) {
                due("winner, " + i, x.told(who, 400, 2, i), NONE);
            }
        }
        due("the second of two winners", x.told(0, 400, 2, 1), NONE);
        PrizeDesk empty = new PrizeDesk();
        for (int list = 0; list < 3; list++) {
            due("an empty list " + list, empty.told(7, 400, list, 0), NONE);
            due("to the chair", empty.told(0, 0, list, 0), NONE);
        }
    }

    private static void toldNotYet() {
        CHECK.sentence("-2: not to be known yet by them,");
        PrizeDesk x = Desks.withMarked(3);
        for (int i : new int[] {0, 1, 2, 3, -1, Integer.MIN_VALUE, Integer.MAX_VALUE}) {
            due("anybody, longlist " + i, x.told(7, 399, 0, i), NOT_YET);
            for (int who = 1; who < 8; who++) {
                due(who + ", shortlist " + i, x.told(who, 399, 1, i), NOT_YET);
                due(who + ", winner " + i, x.told(who, 399, 2, i), NOT_YET);
            }
        }
        PrizeDesk empty = new PrizeDesk();
        for (int list = 0; list < 3; list++) {
            due("not even that there is none", empty.told(7, 399, list, 0), NOT_YET);
        }
    }

    private static void toldNoSuchOnes() {
        CHECK.sentence("or no such ones.");
        PrizeDesk x = Desks.withMarked(3);
        for (int list = 0; list < 3; list++) {
            for (int who : Desks.outside(0, 7)) {
                due("who " + who, x.told(who, 400, list, 0), NOT_YET);
            }
            for (int day : Desks.outside(0, 400)) {
                due("the chair on " + day, x.told(0, day, list, 0), NOT_YET);
                due("anybody on " + day, x.told(7, day, list, 0), NOT_YET);
            }
        }
        for (int list : Desks.outside(0, 2)) {
            due("list " + list, x.told(0, 400, list, 0), NOT_YET);
            due("list " + list, x.told(0, 400, list, 9), NOT_YET);
            due("list " + list, x.told(7, 400, list, 0), NOT_YET);
        }
    }

    private static void lookInAndMarks() {
        CHECK.sentence("Of BOOK b, what 0 whether it is IN, 1 how many MARKS it has, 2 their sum,");
        PrizeDesk x = Desks.with(24);
        for (int b : new int[] {0, 23}) {
            due("in", x.look(b, 0), 1);
            due("no marks", x.look(b, 1), 0);
            due("no sum", x.look(b, 2), 0);
            for (int j = 0; j < 7; j++) {
                x.mark(j, b, 100);
                due("marks", x.look(b, 1), j + 1);
                due("sum", x.look(b, 2), 100 * (j + 1));
            }
            for (int j = 0; j < 7; j++) {
                x.mark(j, b, 0);
            }
            due("marks of 0", x.look(b, 1), 7);
            due("their sum", x.look(b, 2), 0);
            x.mark(6, b, 1);
            x.withdraw(b);
            due("out", x.look(b, 0), 0);
            due("it has its marks still", x.look(b, 1), 7);
            due("and their sum", x.look(b, 2), 1);
        }
    }

    private static void lookCalledAndOn() {
        CHECK.sentence("3 whether it is CALLED IN, 4 WITHDRAWN, 5 PUBLISHER, 6 PAGES, 7 DAY;");
        PrizeDesk x = new PrizeDesk();
        x.book(7, 2000, 400);
        x.book(0, 1, 0);
        int[][] want = {{0, 0, 7, 2000, 400}, {0, 0, 0, 1, 0}};
        for (int turn = 0; turn < 3; turn++) {
            for (int b = 0; b < 2; b++) {
                for (int i = 0; i < 5; i++) {
                    due("look(" + b + ", " + (3 + i) + ")", x.look(b, 3 + i), want[b][i]);
                }
            }
            if (turn == 0) {
                x.call(0);
                x.withdraw(1);
                want[0][0] = 1;
                want[1][1] = 1;
            } else {
                x.call(1);
                x.withdraw(0);
                want[1][0] = 1;
                want[0][1] = 1;
            }
        }
    }

    private static void lookMarks() {
        CHECK.sentence("10 + j the MARK of JUDGE j (NONE);");
        PrizeDesk x = Desks.with(2);
        for (int j = 0; j < 7; j++) {
            due("not told", x.look(1, 10 + j), NONE);
            x.mark(j, 1, 0);
            due("0", x.look(1, 10 + j), 0);
            x.mark(j, 1, 100 - j);
        }
        for (int j = 0; j < 7; j++) {
            due("of " + j, x.look(1, 10 + j), 100 - j);
            due("of the other book", x.look(0, 10 + j), NONE);
        }
        x.kin(6, 1);
        due("gone", x.look(1, 16), NONE);
    }

    private static void lookBarred() {
        CHECK.sentence("20 + j whether j is BARRED from it.");
        for (int judge = 0; judge < 7; judge++) {
            PrizeDesk x = Desks.with(16);
            x.kin(judge, 15);
            x.friend(judge, 0);
            for (int b = 0; b < 16; b++) {
                for (int j = 0; j < 7; j++) {
                    boolean isBarred = j == judge && (b == 15 || b % 8 == 0);
                    due("look(" + b + ", " + (20 + j) + ")", x.look(b, 20 + j), isBarred ? 1 : 0);
                }
            }
        }
    }

    private static void lookOthers() {
        CHECK.sentence("whether j is BARRED from it. NONE for others.");
        PrizeDesk x = Desks.with(5);
        for (int b = 0; b < 5; b++) {
            for (int j = 0; j < 7; j++) {
                x.mark(j, b, 60);
            }
        }
        for (int what : new int[] {8, 9, 17, 18, 19}) {
            due("what " + what, x.look(0, what), NONE);
        }
        for (int what : Desks.outside(0, 26)) {
            due("what " + what, x.look(0, what), NONE);
        }
        for (int what : new int[] {0, 1, 5, 10, 16, 20, 26}) {
            for (int b : Desks.outside(0, 4)) {
                due("look(" + b + ", " + what + ")", x.look(b, what), NONE);
            }
        }
        due("without books", new PrizeDesk().look(0, 0), NONE);
    }

    private static void countBooks() {
        CHECK.sentence("0 BOOKS, 1 those that are IN, 2 those that want a THIRD,");
        PrizeDesk x = Desks.with(24);
        due("24", x.count(0), 24);
        due("all in", x.count(1), 24);
        for (int b = 0; b < 24; b++) {
            x.mark(0, b, 0);
            x.mark(1, b, 100);
            due("for a third", x.count(2), b + 1);
        }
        Desks.tell(x, "b1");
        due("books with b1", x.count(0), 24);
        due("eight in", x.count(1), 8);
        due("eight for a third", x.count(2), 8);
        x.withdraw(0);
        due("withdrawn ones are books", x.count(0), 24);
        due("the next of it is in", x.count(1), 8);
        Desks.tell(x, "b0");
        due("none in", x.count(1), 0);
        due("none for a third", x.count(2), 0);
    }

    private static void countLists() {
        CHECK.sentence("3 on THE LONGLIST, 4 on THE SHORTLIST,");
        for (int books = 0; books <= 13; books++) {
            PrizeDesk x = Desks.withMarked(books);
            due("longlist of " + books, x.count(3), Math.min(6, books));
            due("shortlist of " + books, x.count(4), Math.min(3, books));
            Desks.tell(x, "l12;s12");
            due("longlist of " + books + ", l12", x.count(3), Math.min(12, books));
            due("shortlist of " + books + ", s12", x.count(4), Math.min(12, books));
        }
        PrizeDesk y = Desks.with(5);
        due("without marks", y.count(3), 0);
        due("without marks", y.count(4), 0);
    }

    private static void countTape() {
        CHECK.sentence("5 bytes of the tape;");
        PrizeDesk x = Desks.withMarked(2);
        for (int bytes = 0; bytes <= 80; bytes += 20) {
            due("bytes", x.count(5), bytes);
            x.feed(1, 1, 1, 1, 1);
        }
        due("full", x.count(5), 80);
        x.ballot(0, 0, 0, 1);
        due("used", x.count(5), 0);
    }

    private static void countBallots() {
        CHECK.sentence("10, 11 BALLOTS that count in a STAGE.");
        PrizeDesk x = Desks.withMarked(2);
        for (int j = 0; j < 7; j++) {
            Desks.voteOn(x, 100 + j, j, 0, 1);
            due("stage 0", x.count(10), j + 1);
            due("stage 1", x.count(11), j);
            Desks.voteOn(x, 200 + j, j, 1);
            due("stage 1, an empty one", x.count(11), j + 1);
        }
        for (int j = 0; j < 7; j++) {
            x.close(0, 100 + j);
            due("stage 0", x.count(10), j + 1);
            x.close(1, 199 + j);
            due("stage 1", x.count(11), j);
        }
    }

    private static void countOthers() {
        CHECK.sentence("that count in a STAGE. NONE for others.");
        PrizeDesk x = Desks.withMarked(2);
        for (int what : new int[] {6, 7, 8, 9}) {
            due("count(" + what + ")", x.count(what), NONE);
        }
        for (int what : Desks.outside(0, 11)) {
            due("count(" + what + ")", x.count(what), NONE);
        }
    }

    private static void theConstant() {
        CHECK.sentence("The constants: `NONE = -1`: There is none.");
        due("NONE", PrizeDesk.NONE, -1);
    }

    private static void ownMemory() {
        CHECK.sentence("All memory is the prize's own.");
        PrizeDesk first = Desks.withThreeWinners();
        PrizeDesk other = new PrizeDesk();
        Desks.tell(first, "p1;v2;c1");
        Desks.put(first, "q1");
        first.close(0, 1);
        first.telling(0, 1);
        due("no books of another", other.count(0), 0);
        due("no tape", other.count(5), 0);
        due("rules as at first", other.rule('v'), 0);
        due("no ballots", other.count(10), 0);
        other.book(7, 77, 7);
        other.mark(1, 0, 9);
        due("its own close", Desks.voteOn(other, 400, 1, 0, 0), true);
        due("it counts", other.count(10), 1);
        due("its own day", other.told(7, 399, 0, 0), NOT_YET);
        due("nothing changed for the first", first.look(0, 6), 100);
        due("nor its marks", first.look(0, 11), NONE);
        due("nor its tape", first.count(5), 20);
        due("nor its rules", first.rule('v'), 2);
    }

    /** Of 512 calls the first ones fill the desk, the others ask and change; the last one is answered as ever. */
    private static void lastCall() {
        CHECK.sentence("An object is used for at most 512 calls after it has been made;");
        PrizeDesk x = Desks.withMarked(24);
        int calls = 48;
        while (calls < 506) {
            x.mark(calls % 7, calls % 24, calls % 101);
            calls++;
        }
        x.feed(0x6C31323B, 0x64303B63, 0x31000000, 0, 0);
        due("call 508", x.rules(9), 0);
        x.feed(0x17161514, 0, 0, 0, 0);
        due("call 510", x.ballot(0, 0, 400, 4), true);
        due("call 511", x.look(1, 10 + 505 % 7), 505 % 101);
        due("call 512", x.count(3), 12);
    }
}
