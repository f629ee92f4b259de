import java.util.ArrayList;
import java.util.Arrays;
import java.util.Comparator;
import java.util.List;
import java.util.TreeMap;

/**
 * The document's words said once more, in another way than the class says them, with the library and without thrift:
 * what ModelTest compares the class with.
 */
final class SlowDesk {
    private static final int NONE = -1;

    private static final class Book {
        int publisher;
        int pages;
        int day;
        boolean called;
        boolean withdrawn;
    }

    private static final class Paper {
        int day;
        List<Integer> books = new ArrayList<>();
    }

    private List<Integer> tape = new ArrayList<>();
    private TreeMap<Character, Integer> rules = firstRules();
    private final List<Book> books = new ArrayList<>();
    private final boolean[][] kin = new boolean[7][24];
    private final boolean[][] friend = new boolean[7][8];
    private final Integer[][] mark = new Integer[7][24];
    private final Paper[][] paper = new Paper[2][7];
    private final int[] close = {400, 400};
    private final int[] tell = {400, 400, 400};

    private static TreeMap<Character, Integer> firstRules() {
        TreeMap<Character, Integer> first = new TreeMap<>();
        String letters = "pqftbrdlsvc";
        int[] numbers = {50, 900, 0, 365, 3, 2, 30, 6, 3, 0, 0};
        for (int i = 0; i < numbers.length; i++) {
            first.put(letters.charAt(i), numbers[i]);
        }
        return first;
    }

    int feed(int a, int b, int c, int d, int e) {
        if (tape.size() > 60) {
            return NONE;
        }
        for (int word : new int[] {a, b, c, d, e}) {
            tape.add(word >>> 24);
            tape.add((word >>> 16) % 256);
            tape.add((word >>> 8) % 256);
            tape.add(Math.floorMod(word, 256));
        }
        return tape.size();
    }

    int rules(int n) {
        if (n < 0 || n > tape.size()) {
            return NONE;
        }
        StringBuilder text = new StringBuilder();
        for (int i = 0; i < n; i++) {
            text.append((char) (int) tape.get(i));
        }
        tape = new ArrayList<>();
        return parse(text.toString());
    }

    private int parse(String text) {
        TreeMap<Character, Integer> told = firstRules();
        int at = 0;
        while (true) {
            if (at >= text.length() || !told.containsKey(text.charAt(at))) {
                return 100 + at;
            }
            char letter = text.charAt(at++);
            int first = at;
            while (at < text.length() && text.charAt(at) >= '0' && text.charAt(at) <= '9') {
                if (at - first == 4) {
                    return 300 + at;
                }
                at++;
            }
            if (at == first) {
                return 200 + at;
            }
            int number = Integer.parseInt(text.substring(first, at));
            if (!mayBe(letter, number)) {
                return 500 + first;
            }
            told.put(letter, number);
            if (at == text.length()) {
                rules = told;
                return 0;
            }
            if (text.charAt(at) != ';') {
                return 400 + at;
            }
            at++;
        }
    }

    private static boolean mayBe(char letter, int number) {
        switch (letter) {
            case 'r':
                return number >= 1 && number <= 3;
            case 'l':
            case 's':
                return number >= 1 && number <= 12;
            case 'v':
                return number <= 2;
            case 'c':
                return number <= 1;
            default:
                return true;
        }
    }

    int rule(int letter) {
        for (char known : rules.keySet()) {
            if (known == letter) {
                return rules.get(known);
            }
        }
        return NONE;
    }

    int book(int publisher, int pages, int day) {
        if (publisher < 0 || publisher > 7 || pages < 1 || pages > 2000 || day < 0 || day > 400
                || books.size() == 24) {
            return NONE;
        }
        Book book = new Book();
        book.publisher = publisher;
        book.pages = pages;
        book.day = day;
        books.add(book);
        return books.size() - 1;
    }

    private boolean isBook(int b) {
        return b >= 0 && b < books.size();
    }

    private static boolean isJudge(int j) {
        return j >= 0 && j < 7;
    }

    boolean call(int b) {
        if (!isBook(b) || books.get(b).called) {
            return false;
        }
        books.get(b).called = true;
        return true;
    }

    boolean withdraw(int b) {
        if (!isBook(b) || books.get(b).withdrawn) {
            return false;
        }
        books.get(b).withdrawn = true;
        return true;
    }

    private boolean mayStand(int b) {
        Book book = books.get(b);
        return book.pages >= rules.get('p') && book.pages <= rules.get('q') && book.day >= rules.get('f')
                && book.day <= rules.get('t') && !book.withdrawn;
    }

    private boolean isIn(int b) {
        if (!mayStand(b)) {
            return false;
        }
        if (books.get(b).called) {
            return true;
        }
        int lower = 0;
        for (int a = 0; a < b; a++) {
            if (books.get(a).publisher == books.get(b).publisher && mayStand(a) && !books.get(a).called) {
                lower++;
            }
        }
        return lower < rules.get('b');
    }

    private boolean isBarred(int j, int b) {
        return kin[j][b] || friend[j][books.get(b).publisher];
    }

    boolean kin(int j, int b) {
        if (!isJudge(j) || !isBook(b) || kin[j][b]) {
            return false;
        }
        kin[j][b] = true;
        mark[j][b] = null;
        return true;
    }

    boolean friend(int j, int publisher) {
        if (!isJudge(j) || publisher < 0 || publisher > 7 || friend[j][publisher]) {
            return false;
        }
        friend[j][publisher] = true;
        for (int b = 0; b < books.size(); b++) {
            if (isBarred(j, b)) {
                mark[j][b] = null;
            }
        }
        return true;
    }

    /** Tries one load behind the other, giving judges to books and moving those given where that makes room. */
    int load() {
        for (int k = 0; k <= 24; k++) {
            if (canBeRead(k)) {
                return k;
            }
        }
        return NONE;
    }

    private boolean canBeRead(int k) {
        boolean[][] gives = new boolean[7][24];
        for (int b = 0; b < books.size(); b++) {
            for (int i = 0; isIn(b) && i < rules.get('r'); i++) {
                if (!findReader(b, k, gives, new boolean[7])) {
                    return false;
                }
            }
        }
        return true;
    }

    private boolean findReader(int b, int k, boolean[][] gives, boolean[] tried) {
        for (int j = 0; j < 7; j++) {
            if (isBarred(j, b) || gives[j][b] || tried[j]) {
                continue;
            }
            tried[j] = true;
            int load = 0;
            for (int a = 0; a < 24; a++) {
                load += gives[j][a] ? 1 : 0;
            }
            if (load < k) {
                gives[j][b] = true;
                return true;
            }
            for (int a = 0; a < books.size(); a++) {
                if (gives[j][a] && findReader(a, k, gives, tried)) {
                    gives[j][a] = false;
                    gives[j][b] = true;
                    return true;
                }
            }
        }
        return false;
    }

    boolean mark(int j, int b, int n) {
        if (!isJudge(j) || !isBook(b) || n < 0 || n > 100 || isBarred(j, b)) {
            return false;
        }
        mark[j][b] = n;
        return true;
    }

    int met(int j, int k, int what) {
        if (!isJudge(j) || !isJudge(k) || j == k || what < 0 || what > 2) {
            return NONE;
        }
        if (what == 2) {
            return reaches(j, k, new boolean[7]) ? 0 : 1;
        }
        int shared = 0;
        int above = 0;
        for (int b = 0; b < 24; b++) {
            if (mark[j][b] != null && mark[k][b] != null) {
                shared++;
                above += mark[j][b] - mark[k][b];
            }
        }
        return what == 0 ? shared : above;
    }

    private boolean reaches(int j, int k, boolean[] been) {
        if (j == k) {
            return true;
        }
        been[j] = true;
        for (int next = 0; next < 7; next++) {
            if (!been[next] && met(j, next, 0) > 0 && reaches(next, k, been)) {
                return true;
            }
        }
        return false;
    }

    private List<Integer> marksOf(int b) {
        List<Integer> found = new ArrayList<>();
        for (int j = 0; j < 7; j++) {
            if (mark[j][b] != null) {
                found.add(mark[j][b]);
            }
        }
        return found;
    }

    private List<Integer> thirds() {
        List<Integer> found = new ArrayList<>();
        for (int b = 0; b < books.size(); b++) {
            List<Integer> marks = marksOf(b);
            if (isIn(b) && marks.size() == 2 && Math.abs(marks.get(0) - marks.get(1)) > rules.get('d')) {
                found.add(b);
            }
        }
        return found;
    }

    private static int at(List<Integer> list, int i) {
        return i >= 0 && i < list.size() ? list.get(i) : NONE;
    }

    int third(int i) {
        return at(thirds(), i);
    }

    boolean ballot(int j, int stage, int day, int n) {
        if (!isJudge(j) || stage < 0 || stage > 1 || day < 0 || day > 400 || n < 0 || n > 12 || n > tape.size()) {
            return false;
        }
        Paper told = new Paper();
        told.day = day;
        boolean good = true;
        for (int b : tape.subList(0, n)) {
            good = good && isBook(b) && !told.books.contains(b);
            told.books.add(b);
        }
        tape = new ArrayList<>();
        if (good) {
            paper[stage][j] = told;
        }
        return good;
    }

    boolean close(int stage, int day) {
        if (stage < 0 || stage > 1 || day < 0 || day > 400) {
            return false;
        }
        close[stage] = day;
        return true;
    }

    boolean telling(int list, int day) {
        if (list < 0 || list > 2 || day < 0 || day > 400) {
            return false;
        }
        tell[list] = day;
        return true;
    }

    private static int sum(List<Integer> numbers) {
        return numbers.stream().mapToInt(Integer::intValue).sum();
    }

    private List<Integer> longlist() {
        List<Integer> found = new ArrayList<>();
        for (int b = 0; b < books.size(); b++) {
            if (isIn(b) && !marksOf(b).isEmpty()) {
                found.add(b);
            }
        }
        found.sort((a, b) -> {
            List<Integer> x = marksOf(a);
            List<Integer> y = marksOf(b);
            int left = sum(x) * y.size();
            int right = sum(y) * x.size();
            if (left != right) {
                return Integer.compare(right, left);
            }
            return x.size() != y.size() ? Integer.compare(y.size(), x.size()) : Integer.compare(a, b);
        });
        return found.subList(0, Math.min(found.size(), rules.get('l')));
    }

    private List<Integer> shortlist() {
        List<Integer> order = order(0, rules.get('v'));
        return order.subList(0, Math.min(order.size(), rules.get('s')));
    }

    private List<Integer> listOf(int stage) {
        return stage == 0 ? longlist() : shortlist();
    }

    private boolean counts(int stage, int j) {
        return paper[stage][j] != null && paper[stage][j].day <= close[stage];
    }

    private List<Integer> seenOn(int stage, int j, List<Integer> list) {
        List<Integer> seen = new ArrayList<>(paper[stage][j].books);
        seen.removeIf(b -> !list.contains(b) || isBarred(j, b));
        return seen;
    }

    private List<List<Integer>> ballots(int stage, List<Integer> list) {
        List<List<Integer>> found = new ArrayList<>();
        for (int j = 0; j < 7; j++) {
            if (counts(stage, j)) {
                found.add(seenOn(stage, j, list));
            }
        }
        return found;
    }

    private Comparator<Integer> ties(int stage, List<Integer> list) {
        Comparator<Integer> byNumber = Comparator.naturalOrder();
        if (rules.get('c') == 0 || !counts(stage, 0)) {
            return byNumber;
        }
        List<Integer> chair = seenOn(stage, 0, list);
        Comparator<Integer> byChair =
                Comparator.comparingInt(b -> chair.contains(b) ? chair.indexOf(b) : Integer.MAX_VALUE);
        return byChair.thenComparing(byNumber);
    }

    private static boolean isAhead(List<Integer> ballot, int a, int b) {
        if (!ballot.contains(a)) {
            return false;
        }
        return !ballot.contains(b) || ballot.indexOf(a) < ballot.indexOf(b);
    }

    private static boolean beats(List<List<Integer>> ballots, int a, int b) {
        long forward = ballots.stream().filter(ballot -> isAhead(ballot, a, b)).count();
        long back = ballots.stream().filter(ballot -> isAhead(ballot, b, a)).count();
        return forward > back;
    }

    private static int points(List<List<Integer>> ballots, List<Integer> list, int b) {
        int points = 0;
        for (List<Integer> ballot : ballots) {
            if (ballot.contains(b)) {
                points += list.size() - ballot.indexOf(b);
            }
        }
        return points;
    }

    private static int score(List<List<Integer>> ballots, List<Integer> list, int b) {
        int score = 0;
        for (int other : list) {
            score += beats(ballots, b, other) ? 1 : 0;
            score -= beats(ballots, other, b) ? 1 : 0;
        }
        return score;
    }

    private List<Integer> order(int stage, int kind) {
        List<Integer> list = listOf(stage);
        List<List<Integer>> ballots = ballots(stage, list);
        Comparator<Integer> ties = ties(stage, list);
        List<Integer> order = new ArrayList<>(list);
        if (kind == 2) {
            return rounds(order, ballots, ties);
        }
        Comparator<Integer> byValue = kind == 0 ? Comparator.comparingInt(b -> -points(ballots, list, b))
                : Comparator.comparingInt(b -> -score(ballots, list, b));
        order.sort(byValue.thenComparing(ties));
        return order;
    }

    private static List<Integer> rounds(List<Integer> list, List<List<Integer>> ballots, Comparator<Integer> ties) {
        List<Integer> there = new ArrayList<>(list);
        List<Integer> order = new ArrayList<>();
        while (there.size() > 1) {
            int[] held = new int[24];
            for (List<Integer> ballot : ballots) {
                ballot.stream().filter(there::contains).findFirst().ifPresent(b -> held[b]++);
            }
            int fewest = there.stream().mapToInt(b -> held[b]).min().getAsInt();
            Integer out = there.stream().filter(b -> held[b] == fewest).max(ties).get();
            there.remove(out);
            order.add(0, out);
        }
        order.addAll(0, there);
        return order;
    }

    int told(int who, int day, int list, int i) {
        if (who < 0 || who > 7 || day < 0 || day > 400 || list < 0 || list > 2) {
            return -2;
        }
        boolean early = day < tell[list];
        boolean judgeOfLonglist = who < 7 && list == 0;
        if (early && who != 0 && !judgeOfLonglist) {
            return -2;
        }
        if (list == 2) {
            return i == 0 ? at(order(1, rules.get('v')), 0) : NONE;
        }
        return at(listOf(list), i);
    }

    int counted(int stage, int kind, int i) {
        if (stage < 0 || stage > 1 || kind < 0 || kind > 2) {
            return NONE;
        }
        return at(order(stage, kind), i);
    }

    int worth(int stage, int kind, int b) {
        if (stage < 0 || stage > 1 || kind < 0 || kind > 2 || !listOf(stage).contains(b)) {
            return NONE;
        }
        List<Integer> list = listOf(stage);
        List<List<Integer>> ballots = ballots(stage, list);
        if (kind == 0) {
            return points(ballots, list, b);
        }
        return kind == 1 ? 1000 + score(ballots, list, b) : list.size() - order(stage, 2).indexOf(b);
    }

    int paradox(int stage, int what) {
        if (stage < 0 || stage > 1 || what < 0 || what > 2) {
            return NONE;
        }
        List<Integer> list = new ArrayList<>(listOf(stage));
        list.sort(null);
        List<List<Integer>> ballots = ballots(stage, list);
        for (int a : list) {
            for (int b : list) {
                for (int c : list) {
                    if (beats(ballots, a, b) && beats(ballots, b, c) && beats(ballots, c, a)) {
                        return new int[] {a, b, c}[what];
                    }
                }
            }
        }
        return NONE;
    }

    int look(int b, int what) {
        if (!isBook(b)) {
            return NONE;
        }
        if (what >= 10 && what <= 16) {
            return mark[what - 10][b] == null ? NONE : mark[what - 10][b];
        }
        if (what >= 20 && what <= 26) {
            return isBarred(what - 20, b) ? 1 : 0;
        }
        if (what < 0 || what > 7) {
            return NONE;
        }
        Book book = books.get(b);
        List<Integer> all = Arrays.asList(isIn(b) ? 1 : 0, marksOf(b).size(), sum(marksOf(b)), book.called ? 1 : 0,
                book.withdrawn ? 1 : 0, book.publisher, book.pages, book.day);
        return all.get(what);
    }

    int count(int what) {
        switch (what) {
            case 0:
                return books.size();
            case 1:
                int in = 0;
                for (int b = 0; b < books.size(); b++) {
                    in += isIn(b) ? 1 : 0;
                }
                return in;
            case 2:
                return thirds().size();
            case 3:
                return longlist().size();
            case 4:
                return shortlist().size();
            case 5:
                return tape.size();
            case 10:
            case 11:
                int counting = 0;
                for (int j = 0; j < 7; j++) {
                    counting += counts(what - 10, j) ? 1 : 0;
                }
                return counting;
            default:
                return NONE;
        }
    }
}
