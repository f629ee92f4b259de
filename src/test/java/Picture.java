import java.util.ArrayList;
import java.util.List;
import java.util.function.Supplier;

/**
 * All that a desk answers, each part asked on an object of its own, so that none is used for more than 512 calls; a
 * helper of the tests.
 */
final class Picture {
    private static final String LETTERS = "pqftbrdlsvc";

    private final Supplier<PrizeDesk> maker;
    private final List<String> answers = new ArrayList<>();

    private Picture(Supplier<PrizeDesk> maker) {
        this.maker = maker;
    }

    /** The lines are the calls with their answers. */
    static List<String> of(Supplier<PrizeDesk> maker) {
        Picture picture = new Picture(maker);
        picture.askNumbers();
        picture.askBooks();
        picture.askJudges();
        picture.askCounts();
        for (int list = 0; list < 3; list++) {
            picture.askTelling(list);
        }
        picture.askTape();
        return picture.answers;
    }

    private void add(String call, int answer) {
        answers.add(call + " = " + answer);
    }

    private void askNumbers() {
        PrizeDesk x = maker.get();
        add("load()", x.load());
        for (int what = 0; what < 12; what++) {
            add("count(" + what + ")", x.count(what));
        }
        for (int i = 0; i < 24; i++) {
            add("third(" + i + ")", x.third(i));
        }
        askRules("", x);
    }

    private void askRules(String when, PrizeDesk x) {
        for (char letter : LETTERS.toCharArray()) {
            add(when + "rule(" + letter + ")", x.rule(letter));
        }
    }

    private void askBooks() {
        for (int from = 0; from < 24; from += 12) {
            PrizeDesk x = maker.get();
            for (int b = from; b < from + 12; b++) {
                for (int what = 0; what < 27; what++) {
                    add("look(" + b + ", " + what + ")", x.look(b, what));
                }
            }
        }
    }

    private void askJudges() {
        PrizeDesk x = maker.get();
        for (int j = 0; j < 7; j++) {
            for (int k = 0; k < 7; k++) {
                for (int what = 0; what < 3; what++) {
                    add("met(" + j + ", " + k + ", " + what + ")", x.met(j, k, what));
                }
            }
        }
    }

    private void askCounts() {
        for (int stage = 0; stage < 2; stage++) {
            PrizeDesk x = maker.get();
            for (int kind = 0; kind < 3; kind++) {
                for (int b = 0; b < 24; b++) {
                    add("worth(" + stage + ", " + kind + ", " + b + ")", x.worth(stage, kind, b));
                    add("counted(" + stage + ", " + kind + ", " + b + ")", x.counted(stage, kind, b));
                }
                add("paradox(" + stage + ", " + kind + ")", x.paradox(stage, kind));
            }
        }
    }

    private void askTelling(int list) {
        PrizeDesk x = maker.get();
        for (int i = 0; i < 13; i++) {
            add("told(0, 0, " + list + ", " + i + ")", x.told(0, 0, list, i));
        }
        for (int day = 0; day <= 400; day++) {
            add("told(7, " + day + ", " + list + ", 0)", x.told(7, day, list, 0));
        }
    }

    private void askTape() {
        for (int n = 0; n <= 80; n++) {
            PrizeDesk x = maker.get();
            String when = "after rules(" + n + "): ";
            add(when, x.rules(n));
            askRules(when, x);
        }
        for (int n = 0; n <= 12; n++) {
            PrizeDesk x = maker.get();
            String when = "after ballot(6, 0, 0, " + n + "): ";
            add(when, x.ballot(6, 0, 0, n) ? 1 : 0);
            for (int b = 0; b < 24; b++) {
                add(when + "worth(0, 0, " + b + ")", x.worth(0, 0, b));
            }
        }
    }
}
