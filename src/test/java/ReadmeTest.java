/** The calls of README.md, with the answers that it tells. */
public final class ReadmeTest {
    private static final RationLisp CAMP = new RationLisp();

    public static void main(String[] args) {
        firstExample();
        secondExample();
        Due.end();
    }

    private static void firstExample() {
        CAMP.supply(0, 8);
        CAMP.giveRations(1, 1);
        same("buy", CAMP.buy(1, 1), 10);
        type(0, "(take a 5)");
        int order = CAMP.order(1, 0, 1, 100);
        CAMP.pass(1);
        same("state", CAMP.state(order), RationLisp.DONE);
        same("stock", CAMP.stock(1, 0), 5);
    }

    private static void secondExample() {
        type(1, "(take a 1)(give 2 a (div a 0))");
        int next = CAMP.order(1, 1, 1, 3);
        CAMP.pass(1);
        same("state of the next", CAMP.state(next), RationLisp.DRY);
        same("done", CAMP.done(next), 1);
        same("first takeUp", CAMP.takeUp(next, 50), RationLisp.FAULTY);
        same("why", CAMP.why(next), RationLisp.BY_NOTHING);
        CAMP.erase(1, 3);
        type(1, " 2))");
        CAMP.giveRations(1, 1);
        CAMP.buy(1, 1);
        same("second takeUp", CAMP.takeUp(next, 50), RationLisp.DONE);
        same("movedTo", CAMP.movedTo(CAMP.moves() - 1), 2);
        same("movedAmount", CAMP.movedAmount(CAMP.moves() - 1), 3);
        same("stockByMoves", CAMP.stockByMoves(1, 0), 3);
        same("stock after all", CAMP.stock(1, 0), 3);
    }

    private static void type(int script, String text) {
        for (char sign : text.toCharArray()) {
            CAMP.type(script, sign);
        }
    }

    private static void same(String call, int answer, int due) {
        if (answer != due) {
            Due.tell(call + " answered " + answer + ", due is " + due);
        }
    }
}
