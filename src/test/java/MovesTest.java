/** Promises 32 to 37: the book of all moves. */
public final class MovesTest {
    public static void main(String[] args) {
        promises32To37();
        indexThrown();
        numbersGoOnBehindUndoneMoves();
        threeThousand();
        Due.end();
    }

    private static void move(Due due, int move, int from, int to, int good, int amount, int by) {
        due.is(from, "movedFrom " + move).is(to, "movedTo " + move).is(good, "movedGood " + move);
        due.is(amount, "movedAmount " + move).is(by, "movedBy " + move);
    }

    private static void promises32To37() {
        Due due = new Due("moves").is(0, "moves").with("supply 0 9", "supply 7 5").fuel(1, 50).fuel(2, 50);
        due.text(0, "(take a 7)(take b 1)(take h 99)(give 3 h 2)").text(1, "(take a 9)(put a 1)(put c 1)(give 2 a 1)");
        due.with("order 2 1 2 50", "order 1 0 1 50", "pass 2").is(5, "moves");
        move(due, 0, -1, 1, 0, 7, 1);
        move(due, 1, -1, 1, 7, 5, 1);
        move(due, 2, 1, 3, 7, 2, 1);
        move(due, 3, -1, 2, 0, 2, 0);
        move(due, 4, 2, -1, 0, 1, 0);
    }

    private static void indexThrown() {
        Due due = new Due("no such move");
        String[] calls = {"movedFrom ", "movedTo ", "movedGood ", "movedAmount ", "movedBy "};
        for (String call : calls) {
            due.is(Due.INDEX, call + 0).is(Due.INDEX, call + -1);
        }
        due.with("supply 0 9").text(0, "(take a 1)(do(take a 1)x)").fuel(0, 50).with("order 0 0 1 50", "pass 1");
        for (String call : calls) {
            due.is(Due.INDEX, call + 1).is(Due.INDEX, call + -1).is(Due.INDEX, call + 3000);
        }
    }

    private static void numbersGoOnBehindUndoneMoves() {
        Due due = new Due("moves behind undone ones").with("supply 0 90").fuel(0, 90).fuel(1, 90);
        due.text(0, "(do(take a 1)(take a 2)x)").text(1, "(take a 3)(take a 4)");
        due.with("order 0 0 1 50", "order 1 1 1 50", "pass 1").is(2, "moves");
        move(due, 0, -1, 1, 0, 3, 1);
        move(due, 1, -1, 1, 0, 4, 1);
    }

    private static String rounds(int many) {
        return "(let i " + many + "(while i" + "(take a 1)(put a 1)".repeat(3) + "(set i(sub i 1))))";
    }

    /** Makes 2994 moves in ten runs, and the last ones one by one. */
    private static void threeThousand() {
        Due due = new Due("3000 moves").text(0, rounds(50)).text(1, rounds(49)).with("supply 0 100", "supply 1 9");
        due.with("giveRations 0 1000", "buy 0 1000", "order 0 1 1 1000");
        for (int i = 1; i < 10; i++) {
            due.with("order 0 0 1 1000");
        }
        due.is(10, "pass 1").is(1, "state 0").is(1, "state 9").is(2994, "moves").is(0, "stock 0 0");
        due.text(2, "(do(take a 1)(take a 2)(take a 3)(take a 4)(take a 5)(take a 6)(take b 1))");
        due.with("order 0 2 1 99", "pass 1").is(3, "state 10").is(2, "why 10").is(2994, "moves").is(0, "stock 0 0");
        due.with("erase 2 11").text(2, ")(take c 1)(give 0 a 1)(take b 0)(take b 1)").is(3, "takeUp 10 99");
        due.is(2, "why 10").is(4, "done 10").is(3000, "moves").is(21, "stock 0 0").is(21, "stockByMoves 0 0");
        due.is(79, "stockByMoves -1 0").is(6, "movedAmount 2999").is(Due.INDEX, "movedAmount 3000");
        due.with("erase 2 120").text(2, "1 2 3 4(take b -1)").is(3, "takeUp 10 99").is(6, "why 10");
        due.with("erase 2 11").text(2, "(put a 1)").is(3, "takeUp 10 99").is(2, "why 10").is(3000, "moves");
        due.with("erase 2 9").text(2, "(give 1 a 1)").is(3, "takeUp 10 99").is(2, "why 10").is(21, "stock 0 0");
        due.with("erase 2 12").text(2, "(put b 1)(give 1 b 1)").is(1, "takeUp 10 99").is(0, "value 10");
        due.is(6, "done 10").is(3000, "moves").is(0, "stock 1 0").is(79, "stock -1 0");
    }
}
