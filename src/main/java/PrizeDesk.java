/**
 * The desk of a book prize. What each call answers and changes is told, promise by promise, in the document
 * (../shared/DOC.md).
 *
 * <p>All rows are made when the object is made and used again by every call, so that no call makes an object. A set
 * of books, publishers or judges is an int with a bit for each.
 */
public final class PrizeDesk {
    public static final int NONE = -1;

    private static final int NOT_TO_BE_KNOWN = -2;

    private static final int BOOKS = 24;
    private static final int PUBLISHERS = 8;
    private static final int JUDGES = 7;
    private static final int CHAIR = 0;
    private static final int MOST_PAGES = 2000;
    private static final int LAST_DAY = 400;
    private static final int BEST_MARK = 100;
    private static final int BALLOT_BOOKS = 12;

    private static final int STAGES = 2;
    private static final int LONGLIST = 0;
    private static final int SHORTLIST = 1;
    private static final int WINNER = 2;
    private static final int LISTS = 3;

    private static final int POINTS = 0;
    private static final int PAIRS = 1;
    private static final int KINDS = 3;
    private static final int SCORE_LIFT = 1000;

    private final Tape tape;
    private final Rules ruleBook;
    private final Shelf shelf;
    private final Panel panel;
    private final Poll shortlistPoll;
    private final Poll winnerPoll;
    private final Tally tally;
    private final Ranking ranking;
    private final int[] tellingDays;

    public PrizeDesk() {
        tape = new Tape();
        ruleBook = new Rules();
        shelf = new Shelf();
        panel = new Panel();
        shortlistPoll = new Poll();
        winnerPoll = new Poll();
        tally = new Tally();
        ranking = new Ranking();
        tellingDays = new int[LISTS];
        for (int list = 0; list < LISTS; list++) {
            tellingDays[list] = LAST_DAY;
        }
    }

    public int feed(int a, int b, int c, int d, int e) {
        if (!tape.hasRoom()) {
            return NONE;
        }
        tape.append(a);
        tape.append(b);
        tape.append(c);
        tape.append(d);
        tape.append(e);
        return tape.length();
    }

    public int rules(int n) {
        if (!tape.holds(n)) {
            return NONE;
        }
        tape.keep(n);
        int fault = ruleBook.read(tape);
        tape.keep(0);
        return fault;
    }

    public int rule(int letter) {
        return ruleBook.number(Rules.indexOf(letter));
    }

    public int book(int publisher, int pages, int day) {
        if (!isPublisher(publisher) || !isWithin(pages, 1, MOST_PAGES) || !isDay(day)) {
            return NONE;
        }
        int b = shelf.add(publisher, pages, day);
        panel.barFriends(b, publisher);
        return b;
    }

    public boolean call(int b) {
        return shelf.has(b) && shelf.callIn(b);
    }

    public boolean withdraw(int b) {
        return shelf.has(b) && shelf.takeOut(b);
    }

    public boolean kin(int j, int b) {
        return isJudge(j) && shelf.has(b) && panel.addKin(j, b);
    }

    public boolean friend(int j, int publisher) {
        return isJudge(j) && isPublisher(publisher) && panel.addFriend(j, publisher, shelf.booksOf(publisher));
    }

    public int load() {
        return panel.leastLoad(shelf.admitted(ruleBook), ruleBook.number(Rules.READERS));
    }

    public boolean mark(int j, int b, int n) {
        if (!isJudge(j) || !shelf.has(b) || !isWithin(n, 0, BEST_MARK) || panel.isBarred(j, b)) {
            return false;
        }
        panel.setMark(j, b, n);
        return true;
    }

    public int met(int j, int k, int what) {
        if (!isJudge(j) || !isJudge(k) || j == k) {
            return NONE;
        }
        switch (what) {
            case 0:
                return Integer.bitCount(panel.sharedBooks(j, k));
            case 1:
                return panel.sumAbove(j, k);
            case 2:
                return asInt(panel.isApart(j, k));
            default:
                return NONE;
        }
    }

    public int third(int i) {
        return nthOf(booksForThird(), i);
    }

    public boolean ballot(int j, int stage, int day, int n) {
        if (!isJudge(j) || !isStage(stage) || !isDay(day)) {
            return false;
        }
        if (!isWithin(n, 0, BALLOT_BOOKS) || !tape.holds(n)) {
            return false;
        }
        tape.keep(n);
        boolean isFair = tapeNamesBooksOnce();
        if (isFair) {
            pollOf(stage).take(j, day, tape);
        }
        tape.keep(0);
        return isFair;
    }

    public boolean close(int stage, int day) {
        if (!isStage(stage) || !isDay(day)) {
            return false;
        }
        pollOf(stage).endOn(day);
        return true;
    }

    public boolean telling(int list, int day) {
        if (!isList(list) || !isDay(day)) {
            return false;
        }
        tellingDays[list] = day;
        return true;
    }

    public int told(int who, int day, int list, int i) {
        if (!isWithin(who, 0, JUDGES) || !isDay(day) || !isList(list) || !mayKnow(who, day, list)) {
            return NOT_TO_BE_KNOWN;
        }
        rankList(Math.min(list, SHORTLIST));
        if (list == WINNER) {
            recount(winnerPoll, ruleBook.number(Rules.VOTE));
            ranking.cut(1);
        }
        return ranking.bookAt(i);
    }

    public int counted(int stage, int kind, int i) {
        if (!isStage(stage) || !isKind(kind)) {
            return NONE;
        }
        rankList(stage);
        recount(pollOf(stage), kind);
        return ranking.bookAt(i);
    }

    public int worth(int stage, int kind, int b) {
        if (!isStage(stage) || !isKind(kind) || !shelf.has(b)) {
            return NONE;
        }
        rankList(stage);
        if (!contains(ranking.asSet(), b)) {
            return NONE;
        }
        recount(pollOf(stage), kind);
        return kind == PAIRS ? tally.valueOf(b) + SCORE_LIFT : tally.valueOf(b);
    }

    public int paradox(int stage, int what) {
        if (!isStage(stage)) {
            return NONE;
        }
        rankList(stage);
        recount(pollOf(stage), PAIRS);
        return tally.ringBook(what);
    }

    public int look(int b, int what) {
        if (!shelf.has(b)) {
            return NONE;
        }
        if (isJudge(what - 10)) {
            return panel.markOf(what - 10, b);
        }
        if (isJudge(what - 20)) {
            return asInt(panel.isBarred(what - 20, b));
        }
        switch (what) {
            case 0:
                return asInt(contains(shelf.admitted(ruleBook), b));
            case 1:
                return panel.marksOn(b);
            case 2:
                return panel.sumOn(b);
            case 3:
                return asInt(shelf.isCalledIn(b));
            case 4:
                return asInt(shelf.isTakenOut(b));
            case 5:
                return shelf.publisherOf(b);
            case 6:
                return shelf.pagesOf(b);
            case 7:
                return shelf.dayOf(b);
            default:
                return NONE;
        }
    }

    public int count(int what) {
        switch (what) {
            case 0:
                return shelf.books();
            case 1:
                return Integer.bitCount(shelf.admitted(ruleBook));
            case 2:
                return Integer.bitCount(booksForThird());
            case 3:
                rankList(LONGLIST);
                return ranking.length();
            case 4:
                rankList(SHORTLIST);
                return ranking.length();
            case 5:
                return tape.length();
            case 10:
                return shortlistPoll.ballotsThatCount();
            case 11:
                return winnerPoll.ballotsThatCount();
            default:
                return NONE;
        }
    }

    private boolean mayKnow(int who, int day, int list) {
        if (who == CHAIR || list == LONGLIST && isJudge(who)) {
            return true;
        }
        return isList(list) && day >= tellingDays[list];
    }

    private boolean tapeNamesBooksOnce() {
        int seen = 0;
        for (int i = 0; i < tape.length(); i++) {
            int b = tape.byteAt(i);
            if (!shelf.has(b) || contains(seen, b)) {
                return false;
            }
            seen |= bit(b);
        }
        return true;
    }

    private int booksForThird() {
        int admitted = shelf.admitted(ruleBook);
        int found = 0;
        for (int b = 0; b < BOOKS; b++) {
            if (contains(admitted, b) && panel.areTwoApart(b, ruleBook.number(Rules.MARKS_APART))) {
                found |= bit(b);
            }
        }
        return found;
    }

    private Poll pollOf(int stage) {
        return stage == 0 ? shortlistPoll : winnerPoll;
    }

    private void rankLonglist() {
        int candidates = 0;
        int admitted = shelf.admitted(ruleBook);
        for (int b = 0; b < BOOKS; b++) {
            int marks = contains(admitted, b) ? panel.marksOn(b) : 0;
            if (marks > 0) {
                candidates |= bit(b);
                ranking.setKey(b, Panel.standing(panel.sumOn(b), marks));
            }
        }
        ranking.draw(candidates, ruleBook.number(Rules.LONGLIST_SIZE));
    }

    /** The list of which a stage chooses has the stage's number. */
    private void rankList(int list) {
        rankLonglist();
        if (list == SHORTLIST) {
            recount(shortlistPoll, ruleBook.number(Rules.VOTE));
            ranking.cut(ruleBook.number(Rules.SHORTLIST_SIZE));
        }
    }

    /** Orders the books that the ranking has by a poll. */
    private void recount(Poll poll, int kind) {
        tally.hear(poll, panel, ranking.asSet(), ruleBook.number(Rules.BY_CHAIR) == 1);
        if (kind == POINTS) {
            tally.valueByPoints();
        } else if (kind == PAIRS) {
            tally.valueByPairs();
        } else {
            tally.valueByRounds();
        }
        tally.rankInto(ranking);
    }

    private static boolean isWithin(int n, int least, int greatest) {
        return n >= least && n <= greatest;
    }

    private static boolean isJudge(int j) {
        return j >= 0 && j < JUDGES;
    }

    private static boolean isPublisher(int publisher) {
        return isWithin(publisher, 0, PUBLISHERS - 1);
    }

    private static boolean isDay(int day) {
        return isWithin(day, 0, LAST_DAY);
    }

    private static boolean isStage(int stage) {
        return isWithin(stage, 0, STAGES - 1);
    }

    private static boolean isList(int list) {
        return isWithin(list, 0, LISTS - 1);
    }

    private static boolean isKind(int kind) {
        return isWithin(kind, 0, KINDS - 1);
    }

    private static boolean isBookNumber(int b) {
        return b >= 0 && b < BOOKS;
    }

    private static int asInt(boolean yes) {
        return yes ? 1 : 0;
    }

    private static int bit(int member) {
        return 1 << member;
    }

    private static boolean contains(int set, int member) {
        return (set >> member & 1) != 0;
    }

    private static int nthOf(int books, int n) {
        int passed = 0;
        for (int b = 0; b < BOOKS; b++) {
            if (contains(books, b)) {
                if (passed == n) {
                    return b;
                }
                passed++;
            }
        }
        return NONE;
    }

    /** The bytes that were fed and not yet used. */
    private static final class Tape {
        private static final int MOST_BYTES = 80;
        private static final int FEED_BYTES = 20;

        private final int[] bytes;
        private int size;

        Tape() {
            bytes = new int[MOST_BYTES];
            size = 0;
        }

        boolean hasRoom() {
            return size + FEED_BYTES <= MOST_BYTES;
        }

        void append(int word) {
            for (int shift = 24; shift >= 0; shift -= 8) {
                if (size < MOST_BYTES) {
                    bytes[size] = word >> shift & 255;
                    size++;
                }
            }
        }

        int length() {
            return size;
        }

        boolean holds(int n) {
            return isWithin(n, 0, size);
        }

        void keep(int n) {
            if (holds(n)) {
                size = n;
            }
        }

        /** NONE behind the end, which is no byte. */
        int byteAt(int i) {
            return isWithin(i, 0, size - 1) ? bytes[i] : NONE;
        }
    }

    /** The numbers that the text of the rules tells, by the place of their letter in LETTERS. */
    private static final class Rules {
        static final int LEAST_PAGES = 0;
        static final int GREATEST_PAGES = 1;
        static final int FIRST_OUT = 2;
        static final int LAST_OUT = 3;
        static final int PER_PUBLISHER = 4;
        static final int READERS = 5;
        static final int MARKS_APART = 6;
        static final int LONGLIST_SIZE = 7;
        static final int SHORTLIST_SIZE = 8;
        static final int VOTE = 9;
        static final int BY_CHAIR = 10;

        private static final int SIZE = 11;
        private static final int[] LETTERS = {'p', 'q', 'f', 't', 'b', 'r', 'd', 'l', 's', 'v', 'c'};
        private static final int[] AT_FIRST = {50, 900, 0, 365, 3, 2, 30, 6, 3, 0, 0};
        private static final int[] LEAST = {0, 0, 0, 0, 0, 1, 0, 1, 1, 0, 0};
        private static final int[] GREATEST = {9999, 9999, 9999, 9999, 9999, 3, 9999, 12, 12, 2, 1};

        private static final int NO_LETTER = 1;
        private static final int NO_DIGIT = 2;
        private static final int FIFTH_DIGIT = 3;
        private static final int NO_SEMICOLON = 4;
        private static final int WRONG_NUMBER = 5;
        private static final int MOST_DIGITS = 4;

        private final int[] numbers;
        private final int[] drafted;
        private int place;
        private int fault;

        Rules() {
            numbers = new int[SIZE];
            drafted = new int[SIZE];
            place = 0;
            fault = 0;
            for (int i = 0; i < SIZE; i++) {
                numbers[i] = AT_FIRST[i];
            }
        }

        static int indexOf(int letter) {
            for (int i = 0; i < SIZE; i++) {
                if (LETTERS[i] == letter) {
                    return i;
                }
            }
            return NONE;
        }

        int number(int index) {
            return isWithin(index, 0, SIZE - 1) ? numbers[index] : NONE;
        }

        /** Answers 0, or 100 times the fault's number and its place; then the rules stay. */
        int read(Tape text) {
            copy(AT_FIRST, drafted);
            place = 0;
            fault = 0;
            readClause(text);
            for (int more = 0; more < Tape.MOST_BYTES && fault == 0 && place < text.length(); more++) {
                place++;
                readClause(text);
            }
            if (fault == 0) {
                copy(drafted, numbers);
            }
            return fault;
        }

        private void readClause(Tape text) {
            int index = indexOf(text.byteAt(place));
            int first = place + 1;
            int digits = digitsFrom(text, first);
            int behind = first + digits;
            int number = numberOf(text, first, behind);
            if (index == NONE) {
                refuse(NO_LETTER, place);
            } else if (digits == 0) {
                refuse(NO_DIGIT, first);
            } else if (digits > MOST_DIGITS) {
                refuse(FIFTH_DIGIT, first + MOST_DIGITS);
            } else if (!isWithin(number, LEAST[index], GREATEST[index])) {
                refuse(WRONG_NUMBER, first);
            } else if (behind < text.length() && text.byteAt(behind) != ';') {
                refuse(NO_SEMICOLON, behind);
            } else {
                drafted[index] = number;
                place = behind;
            }
        }

        private void refuse(int kind, int at) {
            fault = 100 * kind + at;
        }

        /** One more than allowed is enough to know of a fault. */
        private static int digitsFrom(Tape text, int first) {
            for (int digits = 0; digits <= MOST_DIGITS; digits++) {
                if (!isWithin(text.byteAt(first + digits), '0', '9')) {
                    return digits;
                }
            }
            return MOST_DIGITS + 1;
        }

        private static int numberOf(Tape text, int first, int behind) {
            int number = 0;
            for (int i = first; i < behind; i++) {
                number = 10 * number + text.byteAt(i) - '0';
            }
            return number;
        }

        private static void copy(int[] from, int[] to) {
            for (int i = 0; i < SIZE; i++) {
                to[i] = from[i];
            }
        }
    }

    /** The books as they were told. */
    private static final class Shelf {
        private final int[] publishers;
        private final int[] pages;
        private final int[] days;
        private final int[] rivals;
        private int size;
        private int calledIn;
        private int takenOut;

        Shelf() {
            publishers = new int[BOOKS];
            pages = new int[BOOKS];
            days = new int[BOOKS];
            rivals = new int[PUBLISHERS];
            size = 0;
            calledIn = 0;
            takenOut = 0;
        }

        int add(int publisher, int pageCount, int day) {
            if (size >= BOOKS) {
                return NONE;
            }
            int b = size;
            publishers[b] = publisher;
            pages[b] = pageCount;
            days[b] = day;
            size++;
            return b;
        }

        int books() {
            return size;
        }

        boolean has(int b) {
            return b >= 0 && b < size;
        }

        boolean callIn(int b) {
            boolean isNew = !isCalledIn(b);
            calledIn |= bit(b);
            return isNew;
        }

        boolean takeOut(int b) {
            boolean isNew = !isTakenOut(b);
            takenOut |= bit(b);
            return isNew;
        }

        boolean isCalledIn(int b) {
            return contains(calledIn, b);
        }

        boolean isTakenOut(int b) {
            return contains(takenOut, b);
        }

        int publisherOf(int b) {
            return has(b) ? publishers[b] : NONE;
        }

        int pagesOf(int b) {
            return has(b) ? pages[b] : NONE;
        }

        int dayOf(int b) {
            return has(b) ? days[b] : NONE;
        }

        int booksOf(int publisher) {
            int found = 0;
            for (int b = 0; b < BOOKS; b++) {
                if (publisherOf(b) == publisher) {
                    found |= bit(b);
                }
            }
            return found;
        }

        /** The set of the books that are in. A book that is called in takes no other's place. */
        int admitted(Rules rules) {
            for (int publisher = 0; publisher < PUBLISHERS; publisher++) {
                rivals[publisher] = 0;
            }
            int found = 0;
            for (int b = 0; b < BOOKS; b++) {
                if (!has(b) || isTakenOut(b) || !isWithinRules(b, rules)) {
                    continue;
                }
                if (isCalledIn(b) || takesPlace(publishers[b], rules)) {
                    found |= bit(b);
                }
            }
            return found;
        }

        private boolean isWithinRules(int b, Rules rules) {
            return isWithin(pagesOf(b), rules.number(Rules.LEAST_PAGES), rules.number(Rules.GREATEST_PAGES))
                    && isWithin(dayOf(b), rules.number(Rules.FIRST_OUT), rules.number(Rules.LAST_OUT));
        }

        private boolean takesPlace(int publisher, Rules rules) {
            if (!isPublisher(publisher)) {
                return false;
            }
            boolean hasPlace = rivals[publisher] < rules.number(Rules.PER_PUBLISHER);
            rivals[publisher]++;
            return hasPlace;
        }
    }

    /** The judges: what they are barred from, and their marks. */
    private static final class Panel {
        /** A multiple of 1 to 7, so that the mean of up to seven marks is a whole number of such parts. */
        private static final int MEAN_PARTS = 420;

        private final int[] kinBooks;
        private final int[] friends;
        private final int[] barredBooks;
        private final int[] markedBooks;
        private final int[] marks;
        private final int[] freeJudges;

        Panel() {
            kinBooks = new int[JUDGES];
            friends = new int[JUDGES];
            barredBooks = new int[JUDGES];
            markedBooks = new int[JUDGES];
            marks = new int[JUDGES * BOOKS];
            freeJudges = new int[BOOKS];
        }

        /** A number by which books are ordered: the greater mean first, of like ones the one with more marks. */
        static int standing(int sum, int marks) {
            return marks < 1 ? 0 : (JUDGES + 1) * sum * (MEAN_PARTS / marks) + marks;
        }

        boolean addKin(int j, int b) {
            if (!isJudge(j) || contains(kinBooks[j], b)) {
                return false;
            }
            kinBooks[j] |= bit(b);
            bar(j, bit(b));
            return true;
        }

        boolean addFriend(int j, int publisher, int books) {
            if (!isJudge(j) || contains(friends[j], publisher)) {
                return false;
            }
            friends[j] |= bit(publisher);
            bar(j, books);
            return true;
        }

        /** For a book that comes when its publisher's friends are known. */
        void barFriends(int b, int publisher) {
            for (int j = 0; j < JUDGES; j++) {
                if (isBookNumber(b) && contains(friends[j], publisher)) {
                    bar(j, bit(b));
                }
            }
        }

        private void bar(int j, int books) {
            if (isJudge(j)) {
                barredBooks[j] |= books;
                markedBooks[j] &= ~books;
            }
        }

        boolean isBarred(int j, int b) {
            return isJudge(j) && contains(barredBooks[j], b);
        }

        void setMark(int j, int b, int n) {
            if (isJudge(j) && isBookNumber(b)) {
                marks[j * BOOKS + b] = n;
                markedBooks[j] |= bit(b);
            }
        }

        boolean hasMark(int j, int b) {
            return isJudge(j) && isBookNumber(b) && contains(markedBooks[j], b);
        }

        int markOf(int j, int b) {
            return hasMark(j, b) ? marks[j * BOOKS + b] : NONE;
        }

        int marksOn(int b) {
            int found = 0;
            for (int j = 0; j < JUDGES; j++) {
                if (hasMark(j, b)) {
                    found++;
                }
            }
            return found;
        }

        int sumOn(int b) {
            int sum = 0;
            for (int j = 0; j < JUDGES; j++) {
                sum += Math.max(0, markOf(j, b));
            }
            return sum;
        }

        boolean areTwoApart(int b, int distance) {
            int least = BEST_MARK;
            int greatest = 0;
            for (int j = 0; j < JUDGES; j++) {
                if (hasMark(j, b)) {
                    least = Math.min(least, markOf(j, b));
                    greatest = Math.max(greatest, markOf(j, b));
                }
            }
            return marksOn(b) == 2 && greatest - least > distance;
        }

        int sharedBooks(int j, int k) {
            return isJudge(j) && isJudge(k) ? markedBooks[j] & markedBooks[k] : 0;
        }

        int sumAbove(int j, int k) {
            int shared = sharedBooks(j, k);
            int sum = 0;
            for (int b = 0; b < BOOKS; b++) {
                if (contains(shared, b)) {
                    sum += markOf(j, b) - markOf(k, b);
                }
            }
            return sum;
        }

        /** Goes from the books of one judge to those of all whom a row of meetings reaches. */
        boolean isApart(int j, int k) {
            if (!isJudge(j) || !isJudge(k)) {
                return true;
            }
            int reached = markedBooks[j];
            for (int round = 0; round < JUDGES; round++) {
                for (int other = 0; other < JUDGES; other++) {
                    if ((markedBooks[other] & reached) != 0) {
                        reached |= markedBooks[other];
                    }
                }
            }
            return (markedBooks[k] & reached) == 0;
        }

        /**
         * What the judges outside a group can't read, the group must: its share of that, rounded up, is a load that
         * some judge of it has. By the theorem of the least cut no load is needed but the greatest such share.
         */
        int leastLoad(int books, int readers) {
            int size = 0;
            for (int b = 0; b < BOOKS; b++) {
                if (contains(books, b)) {
                    freeJudges[size] = freeJudgesOf(b);
                    if (Integer.bitCount(freeJudges[size]) < readers) {
                        return NONE;
                    }
                    size++;
                }
            }
            int least = 0;
            for (int group = 1; group < 1 << JUDGES; group++) {
                int members = Integer.bitCount(group);
                if (members > 0) {
                    least = Math.max(least, (readingsLeftTo(group, size, readers) + members - 1) / members);
                }
            }
            return least;
        }

        private int freeJudgesOf(int b) {
            int free = 0;
            for (int j = 0; j < JUDGES; j++) {
                if (!isBarred(j, b)) {
                    free |= bit(j);
                }
            }
            return free;
        }

        private int readingsLeftTo(int group, int size, int readers) {
            int left = 0;
            for (int i = 0; i < size && i < BOOKS; i++) {
                int others = Integer.bitCount(freeJudges[i] & ~group);
                if (others < readers) {
                    left += readers - others;
                }
            }
            return left;
        }
    }

    /** The ballots of one stage, as they were told. */
    private static final class Poll {
        private final int[] days;
        private final int[] books;
        private int lastDay;

        Poll() {
            days = new int[JUDGES];
            books = new int[JUDGES * BALLOT_BOOKS];
            lastDay = LAST_DAY;
            for (int j = 0; j < JUDGES; j++) {
                days[j] = NONE;
            }
        }

        void endOn(int day) {
            lastDay = day;
        }

        void take(int j, int day, Tape tape) {
            if (!isJudge(j)) {
                return;
            }
            days[j] = day;
            for (int i = 0; i < BALLOT_BOOKS; i++) {
                books[j * BALLOT_BOOKS + i] = tape.byteAt(i);
            }
        }

        boolean isCounting(int j) {
            return j >= 0 && j < JUDGES && days[j] != NONE && days[j] <= lastDay;
        }

        int ballotsThatCount() {
            int found = 0;
            for (int j = 0; j < JUDGES; j++) {
                if (isCounting(j)) {
                    found++;
                }
            }
            return found;
        }

        /** The i-th book of a ballot that counts; NONE behind its last one, as the tape had it. */
        int bookAt(int j, int i) {
            return isCounting(j) && isWithin(i, 0, BALLOT_BOOKS - 1) ? books[j * BALLOT_BOOKS + i] : NONE;
        }
    }

    /** Books in an order: the greatest key first, of like ones the lower number. */
    private static final class Ranking {
        private final int[] keys;
        private final int[] order;
        private int size;

        Ranking() {
            keys = new int[BOOKS];
            order = new int[BOOKS];
            size = 0;
        }

        void setKey(int b, int key) {
            if (isBookNumber(b)) {
                keys[b] = key;
            }
        }

        void draw(int candidates, int most) {
            int left = candidates;
            size = 0;
            for (int round = 0; round < BOOKS && round < most && left != 0; round++) {
                int best = firstOf(left);
                order[round] = best;
                size = round + 1;
                left &= ~bit(best);
            }
        }

        void cut(int most) {
            size = Math.max(0, Math.min(size, most));
        }

        int length() {
            return size;
        }

        int bookAt(int i) {
            return isWithin(i, 0, size - 1) ? order[i] : NONE;
        }

        int asSet() {
            int found = 0;
            for (int i = 0; i < size; i++) {
                found |= bit(bookAt(i));
            }
            return found;
        }

        private int firstOf(int books) {
            int best = NONE;
            for (int b = 0; b < BOOKS; b++) {
                if (contains(books, b) && (best == NONE || keys[b] > keys[best])) {
                    best = b;
                }
            }
            return best;
        }
    }

    /** A count of one stage: its ballots as they are looked at, and what each book of the list has by them. */
    private static final class Tally {
        /** The place of a book that is not on a ballot, behind all that are on it. */
        private static final int OFF = BOOKS;
        /** More than OFF, so that no tie outweighs a difference in values. */
        private static final int TIE_SPAN = 32;

        private final int[] rows;
        private final int[] places;
        private final int[] ties;
        private final int[] values;
        private final int[] held;
        private final int[] beaten;
        private final int[] ring;
        private int list;

        Tally() {
            rows = new int[JUDGES * BALLOT_BOOKS];
            places = new int[JUDGES * BOOKS];
            ties = new int[BOOKS];
            values = new int[BOOKS];
            held = new int[BOOKS];
            beaten = new int[BOOKS];
            ring = new int[3];
            list = 0;
        }

        void hear(Poll poll, Panel panel, int books, boolean tiesByChair) {
            list = books;
            for (int j = 0; j < JUDGES; j++) {
                hearJudge(j, poll, panel);
            }
            for (int b = 0; b < BOOKS; b++) {
                ties[b] = tiesByChair ? OFF - places[CHAIR * BOOKS + b] : 0;
            }
        }

        /** A ballot that doesn't count, or none, is heard as one with no book on it: it moves nothing. */
        private void hearJudge(int j, Poll poll, Panel panel) {
            if (!isJudge(j)) {
                return;
            }
            for (int b = 0; b < BOOKS; b++) {
                places[j * BOOKS + b] = OFF;
            }
            int next = 0;
            for (int i = 0; i < BALLOT_BOOKS; i++) {
                int b = poll.bookAt(j, i);
                rows[j * BALLOT_BOOKS + i] = NONE;
                if (isListed(b) && !panel.isBarred(j, b)) {
                    places[j * BOOKS + b] = next;
                    rows[j * BALLOT_BOOKS + next] = b;
                    next++;
                }
            }
        }

        int valueOf(int b) {
            return isBookNumber(b) ? values[b] : NONE;
        }

        void rankInto(Ranking ranking) {
            for (int b = 0; b < BOOKS; b++) {
                ranking.setKey(b, TIE_SPAN * values[b] + ties[b]);
            }
            ranking.draw(list, BOOKS);
        }

        /** Asked when the books were valued by pairs. */
        int ringBook(int what) {
            return isWithin(what, 0, ring.length - 1) && findRing() ? ring[what] : NONE;
        }

        private boolean isListed(int b) {
            return isBookNumber(b) && contains(list, b);
        }

        void valueByPoints() {
            int most = Integer.bitCount(list);
            for (int b = 0; b < BOOKS; b++) {
                values[b] = 0;
            }
            for (int j = 0; j < JUDGES; j++) {
                for (int i = 0; i < BALLOT_BOOKS; i++) {
                    int b = rows[j * BALLOT_BOOKS + i];
                    if (isBookNumber(b)) {
                        values[b] += most - i;
                    }
                }
            }
        }

        private void comparePairs() {
            for (int b = 0; b < BOOKS; b++) {
                beaten[b] = 0;
            }
            for (int a = 0; a < BOOKS; a++) {
                for (int b = a + 1; b < BOOKS && isListed(a); b++) {
                    int lead = isListed(b) ? leadOf(a, b) : 0;
                    if (lead > 0) {
                        beaten[a] |= bit(b);
                    } else if (lead < 0) {
                        beaten[b] |= bit(a);
                    }
                }
            }
        }

        private int leadOf(int a, int b) {
            int lead = 0;
            if (!isBookNumber(a) || !isBookNumber(b)) {
                return lead;
            }
            for (int j = 0; j < JUDGES; j++) {
                int placeOfA = places[j * BOOKS + a];
                int placeOfB = places[j * BOOKS + b];
                if (placeOfA < placeOfB) {
                    lead++;
                } else if (placeOfB < placeOfA) {
                    lead--;
                }
            }
            return lead;
        }

        void valueByPairs() {
            comparePairs();
            for (int b = 0; b < BOOKS; b++) {
                values[b] = Integer.bitCount(beaten[b]);
                for (int other = 0; other < BOOKS; other++) {
                    if (contains(beaten[other], b)) {
                        values[b]--;
                    }
                }
            }
        }

        /** The first one that is found, number by number, is the least. */
        private boolean findRing() {
            for (int a = 0; a < BOOKS; a++) {
                for (int b = 0; b < BOOKS; b++) {
                    for (int c = 0; c < BOOKS && contains(beaten[a], b); c++) {
                        if (contains(beaten[b], c) && contains(beaten[c], a)) {
                            ring[0] = a;
                            ring[1] = b;
                            ring[2] = c;
                            return true;
                        }
                    }
                }
            }
            return false;
        }

        /** Who is left at last has the number behind the last round, as if going out in a round more. */
        void valueByRounds() {
            int left = list;
            int books = Integer.bitCount(list);
            for (int round = 1; round <= books; round++) {
                shareBallots(left);
                int out = lastOf(left);
                if (isBookNumber(out)) {
                    values[out] = round;
                    left &= ~bit(out);
                }
            }
        }

        private void shareBallots(int left) {
            for (int b = 0; b < BOOKS; b++) {
                held[b] = 0;
            }
            for (int j = 0; j < JUDGES; j++) {
                int b = firstOn(j, left);
                if (isBookNumber(b)) {
                    held[b]++;
                }
            }
        }

        private int firstOn(int j, int left) {
            for (int i = 0; i < BALLOT_BOOKS && isJudge(j); i++) {
                int b = rows[j * BALLOT_BOOKS + i];
                if (isBookNumber(b) && contains(left, b)) {
                    return b;
                }
            }
            return NONE;
        }

        private int lastOf(int left) {
            int last = NONE;
            int lastKey = 0;
            for (int b = 0; b < BOOKS; b++) {
                int key = TIE_SPAN * held[b] + ties[b];
                if (contains(left, b) && (last == NONE || key <= lastKey)) {
                    last = b;
                    lastKey = key;
                }
            }
            return last;
        }
    }
}
