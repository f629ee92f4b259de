/** The tape, the text of the rules and its faults, promises 2 to 4: for each sentence a test of its own. */
public final class RulesEdgeTest {
    private static final int NONE = -1;
    private static final Check CHECK = new Check();
    private static final String LETTERS = "pqftbrdlsvc";
    private static final int[] AT_FIRST = {50, 900, 0, 365, 3, 2, 30, 6, 3, 0, 0};
    /** Tells each letter another number than at first. */
    private static final String OTHERS = "p1111;q2222;f3333;t4444;b5555;r3;d7777;l8;s9;v2;c1";
    private static final int[] OTHER_NUMBERS = {1111, 2222, 3333, 4444, 5555, 3, 7777, 8, 9, 2, 1};

    private RulesEdgeTest() {
    }

    public static void main(String[] args) {
        feedComesBehind();
        feedHighestFirst();
        feedTellsHowMany();
        feedWhenFull();
        rulesFromNowOn();
        rulesOfWrongText();
        rulesOfTooMany();
        rule();
        clauses();
        digits();
        blanks();
        pages();
        days();
        perPublisher();
        readers();
        marksApart();
        listSizes();
        voteKinds();
        chairTies();
        anyNumbers();
        asAtFirst();
        laterOne();
        firstFault();
        noLetter();
        noDigit();
        fifthDigit();
        behindClause();
        wrongNumber();
        farPlaces();
        CHECK.end();
    }

    private static void due(String call, long got, long want) {
        CHECK.due(call, got, want);
    }

    private static void due(String call, boolean got, boolean want) {
        CHECK.due(call, got, want);
    }

    /** What a new desk answers to a text. */
    private static void reads(String text, int want) {
        due("rules of '" + text + "'", Desks.tell(new PrizeDesk(), text), want);
    }

    private static void numbers(PrizeDesk x, int... want) {
        for (int i = 0; i < want.length; i++) {
            due("rule(" + LETTERS.charAt(i) + ")", x.rule(LETTERS.charAt(i)), want[i]);
        }
    }

    private static void areIn(PrizeDesk x, int... want) {
        for (int b = 0; b < want.length; b++) {
            due("look(" + b + ", 0)", x.look(b, 0), want[b]);
        }
    }

    /** Good clauses, each with its ; behind it, of so many bytes in all (from 8 on). */
    private static String clausesOf(int bytes) {
        StringBuilder text = new StringBuilder();
        for (int i = 0; i < bytes % 3; i++) {
            text.append("p12;");
        }
        while (text.length() < bytes) {
            text.append("p1;");
        }
        return text.toString();
    }

    private static void feedComesBehind() {
        CHECK.sentence("Twenty bytes come behind the tape,");
        PrizeDesk x = new PrizeDesk();
        Desks.put(x, "p1;q2;f3;t4;b5;d6;p7");
        Desks.put(x, "8;r3;d12;q34;v2;l11;");
        Desks.put(x, "s10;c1");
        due("a text over three feeds", x.rules(46), 0);
        numbers(x, 78, 34, 3, 4, 5, 3, 12, 11, 10, 2, 1);
        Desks.put(x, "q9");
        due("a feed's noughts are bytes, too", x.rules(3), 402);
        Desks.put(x, "q9");
        Desks.put(x, ";q8");
        due("and stand ahead of the next feed", x.rules(23), 402);
    }

    private static void feedHighestFirst() {
        CHECK.sentence("the highest of each int first:");
        PrizeDesk x = new PrizeDesk();
        due("feed", x.feed(0x70313233, 0x343B7135, 0x3637383B, 0x66393B74, 0x38373635), 20);
        due("rules", x.rules(20), 0);
        numbers(x, 1234, 5678, 9, 8765, 3, 2, 30, 6, 3, 0, 0);
        x.feed(0xF0310000, 0, 0, 0, 0);
        due("the highest bit of the first byte", x.rules(2), 100);
        x.feed(0x70B10000, 0, 0, 0, 0);
        due("of the second", x.rules(2), 201);
        x.feed(0x703131B1, 0, 0, 0, 0);
        due("of the fourth", x.rules(4), 403);
        PrizeDesk y = Desks.withMarked(24);
        Desks.tell(y, "l12");
        y.feed(0x00010203, 0x04050607, 0x08090A0B, -1, -1);
        due("numbers of books", y.ballot(0, 0, 0, 12), true);
        for (int b = 0; b < 12; b++) {
            due("points of " + b, y.worth(0, 0, b), 12 - b);
        }
    }

    private static void feedTellsHowMany() {
        CHECK.sentence("how many it has;");
        PrizeDesk x = new PrizeDesk();
        for (int turn = 0; turn < 5; turn++) {
            due("count(5), empty", x.count(5), 0);
            for (int bytes = 20; bytes <= 80; bytes += 20) {
                due("feed", x.feed(0, 0, 0, 0, 0), bytes);
                due("count(5)", x.count(5), bytes);
            }
            x.rules(turn);
        }
        x.feed(0, 0, 0, 0, 0);
        x.rules(7);
        due("from the start again", x.feed(-1, -1, -1, -1, -1), 20);
    }

    private static void feedWhenFull() {
        CHECK.sentence("NONE if that would be more than 80.");
        PrizeDesk x = new PrizeDesk();
        String text = clausesOf(76) + "q777";
        Desks.put(x, text);
        due("80 are not more than 80", x.count(5), 80);
        due("20 more are", x.feed(0, 0, 0, 0, 0), NONE);
        due("again", x.feed(Integer.MIN_VALUE, Integer.MAX_VALUE, -1, 1, 0x70313B70), NONE);
        due("80 still", x.count(5), 80);
        due("the same bytes", x.rules(80), 0);
        due("q", x.rule('q'), 777);
        due("room again", x.feed(0, 0, 0, 0, 0), 20);
    }

    private static void rulesFromNowOn() {
        CHECK.sentence("The first n bytes of the tape (empty then) are RULES from now on: 0;");
        PrizeDesk x = new PrizeDesk();
        x.book(0, 100, 10);
        Desks.put(x, "p101;p9;q12345");
        due("just the first of them", x.rules(4), 0);
        due("p", x.rule('p'), 101);
        due("the book is out now", x.look(0, 0), 0);
        due("all the others are gone", x.count(5), 0);
        Desks.put(x, "p9876");
        due("a number is cut with them", x.rules(3), 0);
        due("p", x.rule('p'), 98);
        Desks.put(x, "p10;q11;f12;t13;b140");
        due("all of twenty", x.rules(20), 0);
        numbers(x, 10, 11, 12, 13, 140);
        Desks.put(x, clausesOf(76) + "c1;s");
        due("79 of eighty, a fault at 79", x.rules(79), 179);
        due("gone with a fault, too", x.count(5), 0);
        x.feed(0, 0, 0, 0, 0);
        due("the first none of them", x.rules(0), 100);
        due("gone as well", x.count(5), 0);
        due("the first none of none", x.rules(0), 100);
    }

    private static void rulesOfWrongText() {
        CHECK.sentence("a FAULT: 100 times its number and its place (RULES stay);");
        for (String text : new String[] {"", "x", "p1;q1;", "p", "p5;q", "p5;q12345", "p5;q6 ", "p5;r4", "v0;c0;l13"}) {
            PrizeDesk x = new PrizeDesk();
            Desks.tell(x, OTHERS);
            due("a fault of '" + text + "'", Desks.tell(x, text) >= 100, true);
            numbers(x, OTHER_NUMBERS);
            due("the tape is empty", x.count(5), 0);
        }
        reads("x", 100);
        reads("p1;q", 204);
        reads("p1;q12345", 308);
        reads("p1;q12x", 406);
        reads("p1;q12;r7", 508);
    }

    private static void rulesOfTooMany() {
        CHECK.sentence("NONE: it has not so many (the tape stays).");
        for (int bytes = 0; bytes <= 80; bytes += 20) {
            PrizeDesk x = new PrizeDesk();
            Desks.tell(x, "q555");
            for (int i = 0; i < bytes; i += 20) {
                Desks.put(x, "p66;q77;f88;t99;b14;");
            }
            for (int n : new int[] {bytes + 1, bytes + 20, 81, 256, 1 << 16, Integer.MAX_VALUE}) {
                due("rules(" + n + ") of " + bytes, x.rules(n), NONE);
            }
            for (int n : Desks.outside(0, 80)) {
                due("rules(" + n + ") of " + bytes, x.rules(n), NONE);
            }
            due("count(5)", x.count(5), bytes);
            due("q stays", x.rule('q'), 555);
            due("p stays", x.rule('p'), 50);
            if (bytes > 0) {
                due("the same bytes", x.rules(bytes - 1), 0);
                numbers(x, 66, 77, 88, 99, 14);
            }
        }
    }

    private static void rule() {
        CHECK.sentence("The number of a letter of RULES (a byte); NONE: no such letter.");
        PrizeDesk x = new PrizeDesk();
        Desks.tell(x, OTHERS);
        for (int letter = 0; letter < 256; letter++) {
            int place = LETTERS.indexOf(letter);
            due("rule(" + letter + ")", x.rule(letter), place < 0 ? NONE : OTHER_NUMBERS[place]);
        }
        for (int i = 0; i < LETTERS.length(); i++) {
            int letter = LETTERS.charAt(i);
            for (int off : new int[] {-256, 256, 1 << 16, 1 << 30, Integer.MIN_VALUE}) {
                due("rule(" + (letter + off) + ")", x.rule(letter + off), NONE);
            }
            due("rule(" + -letter + ")", x.rule(-letter), NONE);
        }
        due("least", x.rule(Integer.MIN_VALUE), NONE);
        due("greatest", x.rule(Integer.MAX_VALUE), NONE);
        due("-1", x.rule(-1), NONE);
    }

    private static void clauses() {
        CHECK.sentence("RULES are a TEXT: CLAUSES with a ; (59) between two,");
        PrizeDesk x = new PrizeDesk();
        due("one", Desks.tell(x, "p7"), 0);
        numbers(x, 7, 900);
        due("two", Desks.tell(x, "p8;q9"), 0);
        numbers(x, 8, 9);
        due("all letters", Desks.tell(x, OTHERS), 0);
        numbers(x, OTHER_NUMBERS);
        due("as many as the tape can have", Desks.tell(x, clausesOf(78) + "q3"), 0);
        numbers(x, 1, 3);
        x.feed(0x70383B71, 59 << 24 | 0x393B70, 0, 0, 0);
        due("two between two", x.rules(7), 204);
        x.feed(0x70383A71, 0x39000000, 0, 0, 0);
        due("58 between two", x.rules(5), 402);
        x.feed(0x70383C71, 0x39000000, 0, 0, 0);
        due("60 between two", x.rules(5), 402);
        reads("p1q2", 402);
        reads(";p1", 100);
        reads("p1;", 103);
        reads("p1;;q2", 103);
    }

    private static void digits() {
        CHECK.sentence("each a letter and a number of one to four digits,");
        PrizeDesk x = new PrizeDesk();
        for (String number : new String[] {"0", "9", "10", "99", "100", "999", "1000", "9999", "00", "07", "0010"}) {
            due("p" + number, Desks.tell(x, "p" + number), 0);
            numbers(x, Integer.parseInt(number));
            due("q1;p" + number + ";f2", Desks.tell(x, "q1;p" + number + ";f2"), 0);
            numbers(x, Integer.parseInt(number), 1, 2);
        }
        for (char digit = '0'; digit <= '9'; digit++) {
            due("p" + digit, Desks.tell(x, "p" + digit), 0);
            numbers(x, digit - '0');
        }
        reads("p", 201);
        reads("p12345", 305);
        reads("7", 100);
    }

    private static void blanks() {
        CHECK.sentence("no blanks.");
        reads(" p1;q2", 100);
        reads("p 1;q2", 201);
        reads("p1 ;q2", 402);
        reads("p1; q2", 103);
        reads("p1;q 2", 204);
        reads("p1;q2 ", 405);
        reads("p1 2", 402);
        reads(" ", 100);
        reads("p1\t", 402);
        reads("p1\n", 402);
    }

    private static PrizeDesk booksOfPages(String text, int... pages) {
        PrizeDesk x = new PrizeDesk();
        for (int b = 0; b < pages.length; b++) {
            x.book(b, pages[b], 10);
        }
        if (!text.isEmpty()) {
            Desks.tell(x, text);
        }
        return x;
    }

    private static void pages() {
        CHECK.sentence("Letters: p, q the least, greatest PAGES (at first 50, 900);");
        numbers(new PrizeDesk(), 50, 900);
        areIn(booksOfPages("", 1, 49, 50, 51, 899, 900, 901, 2000), 0, 0, 1, 1, 1, 1, 0, 0);
        areIn(booksOfPages("p100;q200", 99, 100, 101, 199, 200, 201), 0, 1, 1, 1, 1, 0);
        areIn(booksOfPages("p100;q100", 99, 100, 101), 0, 1, 0);
        areIn(booksOfPages("p101;q100", 99, 100, 101, 102), 0, 0, 0, 0);
        areIn(booksOfPages("p0;q2000", 1, 2000), 1, 1);
        areIn(booksOfPages("p2000;q9999", 1999, 2000), 0, 1);
        areIn(booksOfPages("p0;q1", 1, 2), 1, 0);
        areIn(booksOfPages("p0;q0", 1, 2), 0, 0);
    }

    private static PrizeDesk booksOfDays(String text, int... days) {
        PrizeDesk x = new PrizeDesk();
        for (int b = 0; b < days.length; b++) {
            x.book(b, 100, days[b]);
        }
        if (!text.isEmpty()) {
            Desks.tell(x, text);
        }
        return x;
    }

    private static void days() {
        CHECK.sentence("f, t the first, last DAY on which a BOOK may have come out (0, 365);");
        due("f", new PrizeDesk().rule('f'), 0);
        due("t", new PrizeDesk().rule('t'), 365);
        areIn(booksOfDays("", 0, 1, 364, 365, 366, 400), 1, 1, 1, 1, 0, 0);
        areIn(booksOfDays("f10;t20", 0, 9, 10, 11, 19, 20, 21, 400), 0, 0, 1, 1, 1, 1, 0, 0);
        areIn(booksOfDays("f10;t10", 9, 10, 11), 0, 1, 0);
        areIn(booksOfDays("f11;t10", 9, 10, 11, 12), 0, 0, 0, 0);
        areIn(booksOfDays("t0", 0, 1), 1, 0);
        areIn(booksOfDays("f400;t400", 399, 400), 0, 1);
        areIn(booksOfDays("f401;t9999", 0, 400), 0, 0);
    }

    private static void perPublisher() {
        CHECK.sentence("b how many BOOKS of a PUBLISHER (3);");
        PrizeDesk x = Desks.withBooksOf(7, 5);
        due("b", x.rule('b'), 3);
        areIn(x, 1, 1, 1, 0, 0);
        Desks.tell(x, "b0");
        areIn(x, 0, 0, 0, 0, 0);
        Desks.tell(x, "b1");
        areIn(x, 1, 0, 0, 0, 0);
        Desks.tell(x, "b4");
        areIn(x, 1, 1, 1, 1, 0);
        Desks.tell(x, "b5");
        areIn(x, 1, 1, 1, 1, 1);
        PrizeDesk y = Desks.withBooksOf(0, 24);
        Desks.tell(y, "b23");
        due("23 of 24", y.count(1), 23);
        Desks.tell(y, "b24");
        due("24 of 24", y.count(1), 24);
        Desks.tell(y, "b9999");
        due("9999 of 24", y.count(1), 24);
    }

    /** One book that judges 0 and so on may read, so many of them. */
    private static PrizeDesk readable(int judges) {
        PrizeDesk x = Desks.with(1);
        for (int j = judges; j < 7; j++) {
            x.kin(j, 0);
        }
        return x;
    }

    private static void readers() {
        CHECK.sentence("r how many JUDGES read each BOOK, 1 to 3 (2);");
        due("r", new PrizeDesk().rule('r'), 2);
        due("two are enough", readable(2).load(), 1);
        due("one is not", readable(1).load(), NONE);
        for (int r = 1; r <= 3; r++) {
            PrizeDesk x = readable(r);
            due("r" + r, Desks.tell(x, "r" + r), 0);
            due(r + " are enough", x.load(), 1);
            PrizeDesk y = readable(r - 1);
            Desks.tell(y, "r" + r);
            due(r - 1 + " are not", y.load(), NONE);
        }
        reads("r0", 501);
        reads("r4", 501);
        reads("r9999", 501);
        reads("r10", 501);
        reads("r0003", 0);
        reads("r0000", 501);
    }

    private static void marksApart() {
        CHECK.sentence("d how far apart two MARKS may be (30);");
        PrizeDesk x = Desks.with(3);
        due("d", x.rule('d'), 30);
        x.mark(0, 0, 50);
        x.mark(1, 0, 79);
        x.mark(0, 1, 50);
        x.mark(1, 1, 80);
        x.mark(0, 2, 50);
        x.mark(1, 2, 81);
        due("29, 30, 31 apart", x.count(2), 1);
        due("the last", x.third(0), 2);
        Desks.tell(x, "d29");
        due("d29", x.third(0), 1);
        Desks.tell(x, "d31");
        due("d31", x.third(0), NONE);
        Desks.tell(x, "d0");
        due("d0", x.count(2), 3);
    }

    private static void listSizes() {
        CHECK.sentence("l, s how many are on THE LONGLIST (6), THE SHORTLIST (3), 1 to 12;");
        PrizeDesk x = Desks.withMarked(13);
        due("l", x.rule('l'), 6);
        due("s", x.rule('s'), 3);
        due("six", x.count(3), 6);
        due("three", x.count(4), 3);
        for (int n = 1; n <= 12; n++) {
            due("l" + n, Desks.tell(x, "s12;l" + n), 0);
            due(n + " on the longlist", x.count(3), n);
            due(n + " on the shortlist, too", x.count(4), n);
            due("s" + n, Desks.tell(x, "l12;s" + n), 0);
            due("twelve on the longlist", x.count(3), 12);
            due(n + " on the shortlist", x.count(4), n);
        }
        for (String letter : new String[] {"l", "s"}) {
            reads(letter + "0", 501);
            reads(letter + "13", 501);
            reads(letter + "0000", 501);
            reads(letter + "0012", 0);
            reads(letter + "0013", 501);
            reads(letter + "120", 501);
            reads(letter + "9999", 501);
        }
    }

    private static void voteKinds() {
        CHECK.sentence("v the VOTE: 0 POINTS, 1 PAIRS, 2 ROUNDS (0);");
        PrizeDesk x = Desks.withThreeWinners();
        due("v", x.rule('v'), 0);
        due("points at first", x.told(0, 0, 1, 0), 0);
        due("v1", Desks.tell(x, "v1"), 0);
        due("pairs", x.told(0, 0, 1, 0), 2);
        due("v2", Desks.tell(x, "v2"), 0);
        due("rounds", x.told(0, 0, 1, 0), 1);
        due("v0", Desks.tell(x, "v0"), 0);
        due("points", x.told(0, 0, 1, 0), 0);
        reads("v3", 501);
        reads("v0002", 0);
        reads("v0003", 501);
        reads("v9999", 501);
        reads("v256", 501);
    }

    private static void chairTies() {
        CHECK.sentence("c whether ties go by THE CHAIR, 0 or 1 (0);");
        PrizeDesk x = Desks.withMarked(2);
        due("c", x.rule('c'), 0);
        Desks.vote(x, 0, 0, 1);
        Desks.vote(x, 1, 0, 0);
        due("not at first", x.told(0, 0, 1, 0), 0);
        due("c1", Desks.tell(x, "c1"), 0);
        due("by the chair", x.told(0, 0, 1, 0), 1);
        due("c0", Desks.tell(x, "c0"), 0);
        due("not by the chair", x.told(0, 0, 1, 0), 0);
        reads("c2", 501);
        reads("c0001", 0);
        reads("c0002", 501);
        reads("c9999", 501);
        reads("c257", 501);
    }

    private static void anyNumbers() {
        CHECK.sentence("those of p, q, f, t, b, d may be any.");
        for (char letter : "pqftbd".toCharArray()) {
            for (int n : new int[] {0, 1, 3, 4, 12, 13, 255, 256, 400, 401, 2000, 2001, 9998, 9999}) {
                PrizeDesk x = new PrizeDesk();
                due("" + letter + n, Desks.tell(x, "" + letter + n), 0);
                due("rule(" + letter + ")", x.rule(letter), n);
            }
        }
    }

    private static void asAtFirst() {
        CHECK.sentence("What no CLAUSE tells is as at first;");
        String[] numbers = {"9", "9", "9", "9", "9", "1", "9", "9", "9", "1", "1"};
        for (int told = 0; told < LETTERS.length(); told++) {
            PrizeDesk x = new PrizeDesk();
            Desks.tell(x, OTHERS);
            due("the next text", Desks.tell(x, LETTERS.charAt(told) + numbers[told]), 0);
            for (int i = 0; i < LETTERS.length(); i++) {
                int want = i == told ? Integer.parseInt(numbers[i]) : AT_FIRST[i];
                due(LETTERS.charAt(told) + " told, rule(" + LETTERS.charAt(i) + ")", x.rule(LETTERS.charAt(i)), want);
            }
        }
    }

    private static void laterOne() {
        CHECK.sentence("the later one of a letter counts.");
        for (char letter : LETTERS.toCharArray()) {
            PrizeDesk x = new PrizeDesk();
            int least = letter == 'v' || letter == 'c' ? 0 : 1;
            String small = "" + letter + least;
            String great = "" + letter + (least + 1);
            due(small + ";" + great, Desks.tell(x, small + ";" + great), 0);
            due("the greater", x.rule(letter), least + 1);
            String apart = great + (letter == 'q' ? ";p5;" : ";q5;") + small;
            due(apart, Desks.tell(x, apart), 0);
            due("the less", x.rule(letter), least);
            due("three times", Desks.tell(x, small + ";" + small + ";" + great), 0);
            due("the last", x.rule(letter), least + 1);
        }
        reads("r9;r1", 501);
        reads("r1;r9", 504);
    }

    private static void firstFault() {
        CHECK.sentence("FAULTS, the first from the left:");
        reads("x1;r9;p", 100);
        reads("p;x;r9", 201);
        reads("p12345;x;r9", 305);
        reads("p1x;r9;x", 402);
        reads("r9;x;p;q12345", 501);
        reads("p1;r9;x", 504);
        reads("p1;q12345;r9;x", 308);
        reads("px", 201);
        reads("x", 100);
        reads("r9x", 501);
        reads("r99999", 305);
        reads("r9;", 501);
    }

    private static void noLetter() {
        CHECK.sentence("1 no such letter there (the end, too);");
        for (int sign = 0; sign < 256; sign++) {
            boolean isLetter = LETTERS.indexOf(sign) >= 0;
            reads("" + (char) sign + '1', isLetter ? 0 : 100);
            reads("p7;" + (char) sign + '1', isLetter ? 0 : 103);
            reads("" + (char) sign, isLetter ? 201 : 100);
        }
        reads("", 100);
        reads("p1;", 103);
        reads("p1234;", 106);
        reads("p1;q2;", 106);
    }

    private static void noDigit() {
        CHECK.sentence("2 no digit there;");
        for (int sign = 0; sign < 256; sign++) {
            boolean isDigit = sign >= '0' && sign <= '9';
            reads("p" + (char) sign, isDigit ? 0 : 201);
            reads("p1;q" + (char) sign + "1", isDigit ? 0 : 204);
        }
        for (char letter : LETTERS.toCharArray()) {
            reads("" + letter, 201);
            reads("p1;" + letter, 204);
            reads(letter + ";p1", 201);
        }
    }

    private static void fifthDigit() {
        CHECK.sentence("3 a fifth digit, at it;");
        for (char digit = '0'; digit <= '9'; digit++) {
            reads("p1234" + digit, 305);
            reads("p0000" + digit, 305);
        }
        reads("p123456", 305);
        reads("p1234567890", 305);
        reads("p12345;x", 305);
        reads("p12345x", 305);
        reads("p1;q00000", 308);
        reads("p1234;q12345", 311);
        reads("p1234", 0);
        reads("p1234/", 405);
        reads("p1234:", 405);
        for (char letter : LETTERS.toCharArray()) {
            reads(letter + "99999", 305);
            reads(letter + "00001", 305);
        }
    }

    private static void behindClause() {
        CHECK.sentence("4 something else than ; or the end behind a CLAUSE;");
        for (int sign = 0; sign < 256; sign++) {
            boolean isDigit = sign >= '0' && sign <= '9';
            reads("p1" + (char) sign, isDigit ? 0 : sign == ';' ? 103 : 402);
            reads("p1" + (char) sign + "q2", isDigit ? 403 : sign == ';' ? 0 : 402);
            reads("p1;q1234" + (char) sign, isDigit ? 308 : sign == ';' ? 109 : 408);
        }
    }

    private static void wrongNumber() {
        CHECK.sentence("5 a number that it can't be, at its first digit (asked when all its digits were read).");
        String[] wrong = {"r0", "r4", "r0000", "r0004", "r1000", "l0", "l13", "l1300", "s00", "s013", "v3", "v22",
            "c2", "c10", "c1111"};
        for (String clause : wrong) {
            reads(clause, 501);
            reads("p1;q1234;" + clause, 510);
            reads(clause + ";p1", 501);
            reads(clause + "x", 501);
            reads(clause + " ", 501);
        }
        for (String clause : new String[] {"r1", "r0003", "l01", "l12", "s1", "s0012", "v0", "v2", "c0", "c01"}) {
            reads(clause, 0);
            reads(clause + "x", 400 + clause.length());
        }
        for (String clause : new String[] {"r00000", "r44444", "l13131", "s00013", "v33333", "c22222"}) {
            reads(clause, 305);
        }
    }

    private static void farPlaces() {
        CHECK.sentence("a FAULT: 100 times its number and its place");
        reads(clausesOf(79) + "x", 179);
        reads(clausesOf(80), 180);
        reads(clausesOf(78) + "px", 279);
        reads(clausesOf(79) + "p", 280);
        reads(clausesOf(74) + "p12345", 379);
        reads(clausesOf(77) + "p1x", 479);
        reads(clausesOf(78) + "r0", 579);
        reads(clausesOf(78) + "r1", 0);
    }
}
