import java.util.Random;

/** Runs of calls, drawn from fixed seeds, on the class and on SlowDesk: every answer must be the same. */
public final class ModelTest {
    private static final int RUNS = 1500;
    private static final int CALLS = 512;

    private final Check check;
    private final Random random;
    private final PrizeDesk desk = new PrizeDesk();
    private final SlowDesk model = new SlowDesk();
    private int calls = 0;

    private ModelTest(Check check, long seed) {
        this.check = check;
        this.random = new Random(seed);
        check.in("seed " + seed);
    }

    public static void main(String[] args) {
        Check check = new Check();
        for (long seed = 0; seed < RUNS && check.isClean(); seed++) {
            new ModelTest(check, seed).run();
        }
        check.end();
    }

    private void run() {
        int start = random.nextInt(25);
        for (int i = 0; i < start; i++) {
            tellBook();
        }
        int marks = random.nextInt(90);
        for (int i = 0; i < marks; i++) {
            tellMark();
        }
        int papers = random.nextInt(16);
        for (int i = 0; i < papers; i++) {
            tellBallot();
        }
        while (calls < CALLS && check.isClean()) {
            if (random.nextInt(3) == 0) {
                change();
            } else {
                ask();
            }
        }
    }

    /** Mostly within the bounds, now and then just outside or far off. */
    private int near(int least, int greatest) {
        int kind = random.nextInt(40);
        if (kind == 0) {
            return random.nextInt();
        }
        if (kind == 1) {
            return random.nextBoolean() ? Integer.MIN_VALUE : Integer.MAX_VALUE;
        }
        if (kind <= 4) {
            return random.nextBoolean() ? least - 1 : greatest + 1;
        }
        if (kind <= 8) {
            return random.nextBoolean() ? least : greatest;
        }
        return least + random.nextInt(greatest - least + 1);
    }

    private int bookNumber() {
        int books = desk.count(0);
        return near(0, Math.max(0, books - 1));
    }

    private void same(String call, long got, long want) {
        calls++;
        check.due("call " + calls + ", " + call, got, want);
    }

    private void same(String call, boolean got, boolean want) {
        same(call, got ? 1 : 0, want ? 1 : 0);
    }

    private void tellBook() {
        int publisher = near(0, 7);
        int pages = random.nextInt(4) == 0 ? near(1, 2000) : near(45, 120);
        int day = random.nextInt(4) == 0 ? near(0, 400) : near(0, 366);
        same("book(" + publisher + ", " + pages + ", " + day + ")", desk.book(publisher, pages, day),
                model.book(publisher, pages, day));
    }

    private void tellMark() {
        int j = near(0, 6);
        int b = bookNumber();
        int n = random.nextBoolean() ? near(0, 100) : 10 * random.nextInt(11);
        same("mark(" + j + ", " + b + ", " + n + ")", desk.mark(j, b, n), model.mark(j, b, n));
    }

    private void feed(int[] bytes) {
        int[] words = new int[5];
        for (int i = 0; i < bytes.length && i < 20; i++) {
            words[i / 4] |= bytes[i] << 24 - i % 4 * 8;
        }
        same("feed", desk.feed(words[0], words[1], words[2], words[3], words[4]),
                model.feed(words[0], words[1], words[2], words[3], words[4]));
    }

    private void tellBallot() {
        int books = Math.max(1, desk.count(0));
        int[] row = new int[20];
        int n = random.nextInt(13);
        int kept = 0;
        boolean sloppy = random.nextInt(12) == 0;
        for (int i = 0; i < 60 && kept < n; i++) {
            int b = sloppy ? random.nextInt(books + 1) : random.nextInt(books);
            boolean twice = false;
            for (int k = 0; k < kept; k++) {
                twice |= row[k] == b;
            }
            if (!twice || sloppy) {
                row[kept++] = b;
            }
        }
        int size = random.nextInt(15) == 0 ? near(0, 12) : kept;
        if (desk.count(5) > 0 && random.nextInt(10) != 0) {
            same("rules(0)", desk.rules(0), model.rules(0));
        }
        if (random.nextInt(15) != 0) {
            feed(row);
        }
        int j = near(0, 6);
        int stage = near(0, 1);
        int day = near(0, 400);
        same("ballot(" + j + ", " + stage + ", " + day + ", " + size + ")", desk.ballot(j, stage, day, size),
                model.ballot(j, stage, day, size));
    }

    private void tellRules() {
        String letters = "pqftbrdlsvcpqftbrdlsvcx;";
        StringBuilder text = new StringBuilder();
        int clauses = 1 + random.nextInt(4);
        for (int i = 0; i < clauses; i++) {
            char letter = letters.charAt(random.nextInt(letters.length() - (random.nextInt(6) == 0 ? 0 : 2)));
            text.append(i == 0 ? "" : ";").append(letter).append(numberFor(letter));
        }
        if (random.nextInt(6) == 0) {
            String signs = "pqx0199;; " + (char) 200;
            int place = random.nextInt(text.length() + 1);
            text.insert(place, signs.charAt(random.nextInt(signs.length())));
        }
        int[] bytes = new int[Math.min(20, text.length())];
        for (int i = 0; i < bytes.length; i++) {
            bytes[i] = text.charAt(i);
        }
        if (desk.count(5) > 0 && random.nextInt(10) != 0) {
            same("rules(0)", desk.rules(0), model.rules(0));
        }
        feed(bytes);
        int n = random.nextInt(10) == 0 ? near(0, 80) : bytes.length;
        same("rules(" + n + ") of " + text, desk.rules(n), model.rules(n));
    }

    private int numberFor(char letter) {
        switch (letter) {
            case 'p':
                return random.nextInt(90);
            case 'q':
                return 60 + random.nextInt(1000);
            case 'f':
                return random.nextInt(60);
            case 't':
                return 250 + random.nextInt(200);
            case 'b':
                return random.nextInt(5);
            case 'r':
                return random.nextInt(12) == 0 ? random.nextInt(6) : 1 + random.nextInt(3);
            case 'd':
                return random.nextInt(60);
            case 'v':
                return random.nextInt(12) == 0 ? 3 : random.nextInt(3);
            case 'c':
                return random.nextInt(12) == 0 ? 2 : random.nextInt(2);
            default:
                return random.nextInt(12) == 0 ? random.nextInt(14000) : 1 + random.nextInt(12);
        }
    }

    private void change() {
        switch (random.nextInt(16)) {
            case 0:
                tellBook();
                break;
            case 1:
            case 2:
            case 3:
                tellMark();
                break;
            case 4:
            case 5:
            case 6:
            case 7:
                tellBallot();
                break;
            case 8:
            case 9:
                tellRules();
                break;
            case 10:
                feed(new int[] {random.nextInt(256), random.nextInt(256), random.nextInt(256), 's', '1'});
                break;
            default:
                changeOther();
        }
    }

    private void changeOther() {
        int j = near(0, 6);
        int b = bookNumber();
        int small = near(0, 2);
        int day = near(0, 400);
        int publisher = near(0, 7);
        switch (random.nextInt(9)) {
            case 0:
                same("call(" + b + ")", desk.call(b), model.call(b));
                break;
            case 1:
                if (random.nextInt(3) == 0) {
                    same("withdraw(" + b + ")", desk.withdraw(b), model.withdraw(b));
                }
                break;
            case 2:
                same("kin(" + j + ", " + b + ")", desk.kin(j, b), model.kin(j, b));
                break;
            case 3:
                if (random.nextInt(3) == 0) {
                    same("friend(" + j + ", " + publisher + ")", desk.friend(j, publisher),
                            model.friend(j, publisher));
                }
                break;
            case 4:
            case 5:
                same("close(" + small + ", " + day + ")", desk.close(small, day), model.close(small, day));
                break;
            default:
                same("telling(" + small + ", " + day + ")", desk.telling(small, day), model.telling(small, day));
        }
    }

    private void ask() {
        int i = near(0, 12);
        int b = bookNumber();
        int stage = near(0, 1);
        int kind = near(0, 2);
        switch (random.nextInt(10)) {
            case 0:
                int letter = random.nextInt(10) == 0 ? near(0, 255) : "pqftbrdlsvc".charAt(random.nextInt(11));
                same("rule(" + letter + ")", desk.rule(letter), model.rule(letter));
                break;
            case 1:
                same("load()", desk.load(), model.load());
                break;
            case 2:
                int j = near(0, 6);
                int k = near(0, 6);
                same("met(" + j + ", " + k + ", " + kind + ")", desk.met(j, k, kind), model.met(j, k, kind));
                break;
            case 3:
                same("third(" + i + ")", desk.third(i), model.third(i));
                break;
            case 4:
                int who = near(0, 7);
                int day = near(0, 400);
                same("told(" + who + ", " + day + ", " + kind + ", " + i + ")", desk.told(who, day, kind, i),
                        model.told(who, day, kind, i));
                same("told(0, 0, " + kind + ", " + i + ")", desk.told(0, 0, kind, i), model.told(0, 0, kind, i));
                same("told(0, 0, 2, 0)", desk.told(0, 0, 2, 0), model.told(0, 0, 2, 0));
                break;
            case 5:
                same("counted(" + stage + ", " + kind + ", " + i + ")", desk.counted(stage, kind, i),
                        model.counted(stage, kind, i));
                break;
            case 6:
                same("worth(" + stage + ", " + kind + ", " + b + ")", desk.worth(stage, kind, b),
                        model.worth(stage, kind, b));
                break;
            case 7:
                same("paradox(" + stage + ", " + kind + ")", desk.paradox(stage, kind), model.paradox(stage, kind));
                break;
            case 8:
                int what = near(0, 28);
                same("look(" + b + ", " + what + ")", desk.look(b, what), model.look(b, what));
                break;
            default:
                int number = near(0, 12);
                same("count(" + number + ")", desk.count(number), model.count(number));
        }
    }
}
