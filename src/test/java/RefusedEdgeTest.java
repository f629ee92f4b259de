import java.util.ArrayList;
import java.util.List;
import java.util.function.Supplier;
import java.util.function.ToLongFunction;

/** Of each promise the calls that are refused: what can be asked afterwards is as it was before. */
public final class RefusedEdgeTest {
    private static final Check CHECK = new Check();
    private static final int[] TEXT = "p77;q88;f1;t22;b4;r1;d5;l7;s6;v2;c0".chars().toArray();
    private static final int[] NUMBERS = {5, 0, 11, 2, 7, 9, 1, 4, 10, 6, 8, 3};

    private RefusedEdgeTest() {
    }

    public static void main(String[] args) {
        CHECK.sentence("A call that is refused (NONE, false) changes nothing but the tape, where it is told.");
        feedAndRules();
        books();
        judges();
        marks();
        ballots();
        days();
        questions();
        ballotsThatEmptyTheTape();
        picturesDiffer();
        CHECK.end();
    }

    private static int asInt(boolean yes) {
        return yes ? 1 : 0;
    }

    private static void same(String call, List<String> got, List<String> want) {
        for (int i = 0; i < want.size(); i++) {
            if (!got.get(i).equals(want.get(i))) {
                CHECK.fail("after " + call + " is " + got.get(i) + ", due is " + want.get(i));
                return;
            }
        }
    }

    /** The call answers so on each of the desks, and nothing that these answer later is another. */
    private static void refused(String call, ToLongFunction<PrizeDesk> act, long answer) {
        List<Supplier<PrizeDesk>> desks = new ArrayList<>();
        desks.add(() -> Desks.busy(TEXT));
        desks.add(() -> Desks.busy(NUMBERS));
        for (Supplier<PrizeDesk> desk : desks) {
            CHECK.due(call, act.applyAsLong(desk.get()), answer);
            same(call, Picture.of(() -> {
                PrizeDesk x = desk.get();
                act.applyAsLong(x);
                return x;
            }), Picture.of(desk));
        }
    }

    private static void feedAndRules() {
        Supplier<PrizeDesk> full = () -> {
            PrizeDesk x = Desks.busy(TEXT);
            Desks.put(x, TEXT);
            return x;
        };
        CHECK.due("feed", full.get().feed(-1, -1, -1, -1, -1), -1);
        same("feed", Picture.of(() -> {
            PrizeDesk x = full.get();
            x.feed(-1, -1, -1, -1, -1);
            return x;
        }), Picture.of(full));
        for (int n : new int[] {41, 80, 81, -1, Integer.MIN_VALUE, Integer.MAX_VALUE}) {
            refused("rules(" + n + ")", x -> x.rules(n), -1);
        }
        refused("rule(0)", x -> x.rule(0), -1);
    }

    private static void books() {
        refused("book(8, 100, 1)", x -> x.book(8, 100, 1), -1);
        refused("book(-1, 100, 1)", x -> x.book(-1, 100, 1), -1);
        refused("book(0, 0, 1)", x -> x.book(0, 0, 1), -1);
        refused("book(0, 2001, 1)", x -> x.book(0, 2001, 1), -1);
        refused("book(0, 100, -1)", x -> x.book(0, 100, -1), -1);
        refused("book(0, 100, 401)", x -> x.book(0, 100, 401), -1);
        for (int b : new int[] {-1, 12, 24, 32, 44}) {
            refused("call(" + b + ")", x -> asInt(x.call(b)), 0);
            refused("withdraw(" + b + ")", x -> asInt(x.withdraw(b)), 0);
        }
        refused("call(8)", x -> asInt(x.call(8)), 0);
        refused("withdraw(3)", x -> asInt(x.withdraw(3)), 0);
    }

    private static void judges() {
        for (int j : new int[] {-1, 7, 32, 38}) {
            refused("kin(" + j + ", 0)", x -> asInt(x.kin(j, 0)), 0);
            refused("friend(" + j + ", 0)", x -> asInt(x.friend(j, 0)), 0);
        }
        for (int n : new int[] {-1, 12, 24, 32, 40}) {
            refused("kin(0, " + n + ")", x -> asInt(x.kin(0, n)), 0);
            refused("friend(0, " + n + ")", x -> asInt(x.friend(0, n)), 0);
        }
        refused("friend(0, 8)", x -> asInt(x.friend(0, 8)), 0);
        refused("kin(2, 1)", x -> asInt(x.kin(2, 1)), 0);
        refused("friend(4, 5)", x -> asInt(x.friend(4, 5)), 0);
    }

    private static void marks() {
        refused("mark(-1, 0, 5)", x -> asInt(x.mark(-1, 0, 5)), 0);
        refused("mark(7, 0, 5)", x -> asInt(x.mark(7, 0, 5)), 0);
        refused("mark(0, -1, 5)", x -> asInt(x.mark(0, -1, 5)), 0);
        refused("mark(0, 12, 5)", x -> asInt(x.mark(0, 12, 5)), 0);
        refused("mark(0, 0, -1)", x -> asInt(x.mark(0, 0, -1)), 0);
        refused("mark(0, 0, 101)", x -> asInt(x.mark(0, 0, 101)), 0);
        refused("mark(2, 1, 5)", x -> asInt(x.mark(2, 1, 5)), 0);
        refused("mark(4, 5, 5)", x -> asInt(x.mark(4, 5, 5)), 0);
    }

    private static void ballots() {
        refused("ballot(-1, 0, 1, 3)", x -> asInt(x.ballot(-1, 0, 1, 3)), 0);
        refused("ballot(7, 0, 1, 3)", x -> asInt(x.ballot(7, 0, 1, 3)), 0);
        refused("ballot(0, -1, 1, 3)", x -> asInt(x.ballot(0, -1, 1, 3)), 0);
        refused("ballot(0, 2, 1, 3)", x -> asInt(x.ballot(0, 2, 1, 3)), 0);
        refused("ballot(0, 0, -1, 3)", x -> asInt(x.ballot(0, 0, -1, 3)), 0);
        refused("ballot(0, 0, 401, 3)", x -> asInt(x.ballot(0, 0, 401, 3)), 0);
        refused("ballot(0, 0, 1, -1)", x -> asInt(x.ballot(0, 0, 1, -1)), 0);
        refused("ballot(0, 0, 1, 13)", x -> asInt(x.ballot(0, 0, 1, 13)), 0);
        refused("ballot(0, 1, 1, 81)", x -> asInt(x.ballot(0, 1, 1, 81)), 0);
    }

    private static void days() {
        for (int n : new int[] {-1, 2, 3, 32}) {
            refused("close(" + n + ", 7)", x -> asInt(x.close(n, 7)), 0);
        }
        for (int n : new int[] {-1, 3, 4, 32}) {
            refused("telling(" + n + ", 7)", x -> asInt(x.telling(n, 7)), 0);
        }
        for (int day : new int[] {-1, 401, Integer.MIN_VALUE, Integer.MAX_VALUE}) {
            refused("close(0, " + day + ")", x -> asInt(x.close(0, day)), 0);
            refused("close(1, " + day + ")", x -> asInt(x.close(1, day)), 0);
            refused("telling(0, " + day + ")", x -> asInt(x.telling(0, day)), 0);
            refused("telling(1, " + day + ")", x -> asInt(x.telling(1, day)), 0);
            refused("telling(2, " + day + ")", x -> asInt(x.telling(2, day)), 0);
        }
    }

    private static void questions() {
        refused("met(0, 0, 0)", x -> x.met(0, 0, 0), -1);
        refused("met(0, 7, 1)", x -> x.met(0, 7, 1), -1);
        refused("third(24)", x -> x.third(24), -1);
        refused("told(8, 400, 0, 0)", x -> x.told(8, 400, 0, 0), -2);
        refused("told(7, 0, 2, 0)", x -> x.told(7, 0, 2, 0), -2);
        refused("counted(2, 0, 0)", x -> x.counted(2, 0, 0), -1);
        refused("worth(0, 3, 0)", x -> x.worth(0, 3, 0), -1);
        refused("worth(1, 2, 3)", x -> x.worth(1, 2, 3), -1);
        refused("paradox(2, 0)", x -> x.paradox(2, 0), -1);
        refused("look(12, 0)", x -> x.look(12, 0), -1);
        refused("count(9)", x -> x.count(9), -1);
    }

    /** Refused for their books, these leave an empty tape, and all else as it was. */
    private static void ballotsThatEmptyTheTape() {
        int[][] rows = {{0, 12}, {255}, {1, 2, 1}, {3, 3}};
        for (int[] row : rows) {
            for (int stage = 0; stage < 2; stage++) {
                int toStage = stage;
                String call = "a ballot of " + row.length;
                CHECK.due(call, Desks.busy(row).ballot(1, toStage, 5, row.length), false);
                same(call, Picture.of(() -> {
                    PrizeDesk x = Desks.busy(row);
                    x.ballot(1, toStage, 5, row.length);
                    return x;
                }), Picture.of(() -> Desks.busy()));
            }
        }
    }

    /** A picture that sees no change would make the tests above worthless. */
    private static void picturesDiffer() {
        List<ToLongFunction<PrizeDesk>> changes = List.of(
                x -> x.feed(0, 0, 0, 0, 0), x -> x.rules(3), x -> x.book(0, 1, 1), x -> asInt(x.call(4)),
                x -> asInt(x.withdraw(4)), x -> asInt(x.kin(0, 4)), x -> asInt(x.friend(0, 6)),
                x -> asInt(x.mark(6, 2, 1)), x -> asInt(x.close(0, 149)), x -> asInt(x.close(0, 151)),
                x -> asInt(x.close(1, 249)), x -> asInt(x.close(1, 251)), x -> asInt(x.telling(0, 99)),
                x -> asInt(x.telling(0, 101)), x -> asInt(x.telling(1, 199)), x -> asInt(x.telling(1, 201)),
                x -> asInt(x.telling(2, 299)), x -> asInt(x.telling(2, 301)));
        List<String> before = Picture.of(() -> Desks.busy(TEXT));
        for (int i = 0; i < changes.size(); i++) {
            ToLongFunction<PrizeDesk> change = changes.get(i);
            List<String> after = Picture.of(() -> {
                PrizeDesk x = Desks.busy(TEXT);
                change.applyAsLong(x);
                return x;
            });
            CHECK.due("change " + i + " is not seen", after.equals(before), false);
        }
    }
}
