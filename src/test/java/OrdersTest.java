/** Promises 20 to 31: orders, hours, runs that go dry or wrong, and taking up again. */
public final class OrdersTest {
    public static void main(String[] args) {
        promise20Order();
        promise20Sixty();
        promise21Pass();
        promise21PassRunsInOrder();
        promise22Hour();
        promise23TakeUpThrows();
        promise23TakeUpGoesOn();
        promise23TakeUpByTheTextAsItIs();
        promise24Orders();
        promise25State();
        promise26Why();
        promise27Done();
        promise28Value();
        promise29Used();
        promise30HourOf();
        promise31LeftBy();
        undoneInTheMidst();
        Due.end();
    }

    private static void promise20Order() {
        Due due = new Due("order");
        due.is(Due.ARGUMENT, "order -1 0 1 1").is(Due.ARGUMENT, "order 4 0 1 1").is(Due.ARGUMENT, "order 0 -1 1 1");
        due.is(Due.ARGUMENT, "order 0 8 1 1").is(Due.ARGUMENT, "order 0 0 0 1").is(Due.ARGUMENT, "order 0 0 101 1");
        due.is(Due.ARGUMENT, "order 0 0 1 0").is(Due.ARGUMENT, "order 0 0 1 1001").is(0, "orders");
        due.is(0, "order 0 0 1 1").is(1, "order 3 7 100 1000").is(2, "orders").is(0, "state 1").is(100, "hourOf 1");
    }

    private static void promise20Sixty() {
        Due due = new Due("60 orders");
        for (int i = 0; i < 60; i++) {
            due.is(i, "order 0 0 1 1");
        }
        due.is(Due.STATE, "order 0 0 1 1").is(Due.ARGUMENT, "order 0 0 0 1").is(60, "orders").is(60, "pass 1");
        due.is(Due.STATE, "order 0 0 1 1").is(60, "orders").is(0, "pass 1").is(1, "state 59");
        // those that scripts make count, and those that are undone
        Due other = new Due("60 orders by at").text(0, "(at 1 1 1)x").text(1, "x").fuel(0, 900);
        for (int i = 0; i < 55; i++) {
            other.with("order 0 1 1 1");
        }
        other.with("order 0 0 2 9", "order 0 0 2 9").is(57, "orders").is(57, "pass 2").is(59, "orders");
        other.with("erase 0 1").text(0, "(do(at 1 1 1)x)").is(3, "takeUp 55 9").is(3, "state 55").is(60, "orders");
        other.is(4, "state 59").is(Due.STATE, "order 0 0 1 1");
    }

    private static void promise21Pass() {
        Due due = new Due("pass").is(Due.ARGUMENT, "pass 0").is(Due.ARGUMENT, "pass 101").is(Due.ARGUMENT, "pass -1");
        due.is(0, "hour").with("order 0 0 1 1", "order 0 0 100 1").is(2, "pass 100").is(100, "hour");
        for (int i = 2; i <= 9; i++) {
            due.is(0, "pass 100").is(i * 100, "hour");
        }
        due.with("order 0 0 100 1", "order 0 0 99 1", "pass 1").is(Due.STATE, "pass 100");
        due.is(901, "hour").is(1, "pass 98");
        due.is(Due.STATE, "pass 2").is(Due.ARGUMENT, "pass 101").is(0, "state 2").is(1, "pass 1").is(1000, "hour");
        due.is(Due.STATE, "pass 1").with("order 0 0 1 1").is(1001, "hourOf 4").is(Due.STATE, "pass 1").is(0, "state 4");
    }

    private static void promise21PassRunsInOrder() {
        // each takes what the one ahead left; the later made one of an earlier hour comes first
        Due due = new Due("pass runs in order").with("supply 0 10").text(0, "(take a 4)").fuel(0, 50).fuel(1, 50);
        due.fuel(2, 50).with("order 0 0 2 9", "order 1 0 1 9", "order 2 0 2 9").is(3, "pass 3");
        due.is(4, "stock 1 0").is(4, "stock 0 0").is(2, "stock 2 0").is(0, "movedTo 1").is(2, "movedTo 2");
        // orders that scripts make in these hours are run in them, and counted; UNDONE ones are not
        Due more = new Due("pass runs what scripts order").text(0, "(at 1 1 9)(do(at 1 1 9)x)").text(1, "(at 1 2 9)");
        more.fuel(0, 50).with("order 0 0 1 9").is(3, "pass 5").is(4, "orders").is(4, "state 2").is(1, "state 3");
        more.is(3, "hourOf 3").is(0, "pass 5");
        // what is DRY or FAULTY is not run again by itself
        Due dry = new Due("pass runs once").text(0, "1").with("order 0 0 1 9").is(1, "pass 1").fuel(0, 50);
        dry.is(0, "pass 9").is(2, "state 0").is(1, "takeUp 0 9").is(0, "pass 9");
    }

    private static void promise22Hour() {
        new Due("hour").is(0, "hour").with("pass 3").is(3, "hour").is(Due.ARGUMENT, "pass 0").is(3, "hour");
    }

    private static void promise23TakeUpThrows() {
        Due due = new Due("takeUp throws").text(0, "1").text(1, "x").text(2, "(do(at 1 0 1)x)").fuel(0, 90);
        due.is(Due.INDEX, "takeUp 0 0").is(Due.INDEX, "takeUp -1 1").with("order 0 0 1 1");
        due.is(Due.ARGUMENT, "takeUp 0 0").is(Due.ARGUMENT, "takeUp 0 1001").is(Due.STATE, "takeUp 0 1");
        due.is(Due.INDEX, "takeUp 1 1").with("pass 1").is(Due.STATE, "takeUp 0 1").is(Due.ARGUMENT, "takeUp 0 -1");
        due.with("order 0 2 1 9", "pass 1").is(4, "state 2").is(Due.STATE, "takeUp 2 1");
        due.with("order 0 1 1 1", "pass 1").is(3, "takeUp 3 1").is(3, "takeUp 3 1000").is(3, "used 3");
    }

    private static void promise23TakeUpGoesOn() {
        Due due = new Due("takeUp goes on").with("supply 0 50").text(0, "(take a 1)(take a 2)(take a (add 1 2))");
        due.fuel(0, 90).with("order 0 0 1 3", "pass 1").is(2, "state 0").is(1, "done 0").is(3, "used 0");
        due.is(2, "takeUp 0 1").is(1, "done 0").is(4, "used 0").is(2, "takeUp 0 2").is(2, "done 0").is(3, "stock 0 0");
        due.is(2, "takeUp 0 3").is(2, "done 0").is(1, "takeUp 0 4").is(3, "done 0").is(6, "stock 0 0");
        due.is(13, "used 0").is(3, "value 0").is(0, "why 0").is(3, "moves").is(1, "hour").is(1, "hourOf 0");
    }

    private static void promise23TakeUpByTheTextAsItIs() {
        Due due = new Due("takeUp by the text as it is").text(0, "1 2 x 4").fuel(0, 90).with("order 0 0 1 9", "pass 1");
        due.is(3, "state 0").is(3, "why 0").is(2, "done 0").with("erase 0 3").text(0, "(").is(3, "takeUp 0 9");
        due.is(1, "why 0").is(2, "done 0").is(2, "value 0").is(3, "used 0").with("erase 0 1").text(0, "7 8");
        due.is(1, "takeUp 0 9").is(4, "done 0").is(8, "value 0").is(0, "why 0").is(5, "used 0");
        // with fewer expressions than are done, there are no more
        Due fewer = new Due("takeUp of a shorter text").text(0, "1 2 x").fuel(0, 90).with("order 0 0 1 9", "pass 1");
        fewer.with("erase 0 4").is(1, "takeUp 0 9").is(2, "done 0").is(2, "value 0").is(3, "used 0").is(1, "state 0");
        // neither a text that has a fault nor an empty one needs fuel
        Due dry = new Due("takeUp without fuel").text(0, "1").with("order 0 0 1 9", "pass 1").is(2, "takeUp 0 9");
        dry.text(0, "-").is(3, "takeUp 0 9").is(1, "why 0").with("erase 0 2").is(1, "takeUp 0 9").is(0, "why 0");
    }

    private static void promise24Orders() {
        Due due = new Due("orders").is(0, "orders").with("order 0 0 1 1").is(1, "orders");
        due.is(Due.ARGUMENT, "order 9 9 9 9");
        due.is(1, "orders").text(0, "(at 1 1 1)").fuel(0, 10).with("order 0 0 1 5", "pass 1").is(3, "orders");
    }

    private static void indexThrown(String call) {
        new Due(call).is(Due.INDEX, call + " 0").is(Due.INDEX, call + " -1").with("order 0 0 1 1")
            .is(Due.INDEX, call + " 1").is(Due.INDEX, call + " -1").is(Due.INDEX, call + " " + Integer.MIN_VALUE);
    }

    private static void promise25State() {
        indexThrown("state");
        Due due = new Due("state").text(0, "1").text(1, "(do(at 9 0 9)x)").fuel(0, 10).with("order 0 0 2 9");
        due.with("order 1 0 1 9", "order 0 1 1 9").is(0, "state 0").with("pass 1").is(0, "state 0").is(2, "state 1");
        due.is(3, "state 2").is(4, "state 3").with("pass 1").is(1, "state 0").with("pass 9").is(4, "state 3");
    }

    private static void promise26Why() {
        indexThrown("why");
        Due due = new Due("why").text(0, "x").text(1, "(").text(2, "(div 1 0)").fuel(0, 90);
        due.with("order 0 0 1 9", "order 0 1 1 9", "order 0 2 1 9", "order 0 2 1 2").is(0, "why 0").with("pass 1");
        due.is(3, "why 0").is(1, "why 1").is(5, "why 2").is(0, "why 3").is(2, "state 3");
        due.is(3, "takeUp 3 9").is(5, "why 3").is(2, "takeUp 3 2").is(0, "why 3").with("erase 2 99");
        due.is(1, "takeUp 2 2").is(0, "why 2");
    }

    private static void promise27Done() {
        indexThrown("done");
        Due due = new Due("done").text(0, "1 (add 1 2) (do 1 2 3) x").fuel(0, 90).with("order 0 0 1 9");
        due.is(0, "done 0").with("pass 1").is(3, "state 0").is(3, "done 0");
    }

    private static void promise28Value() {
        indexThrown("value");
        Due due = new Due("value").text(0, "x").text(1, "-5 x").text(2, "3 4").fuel(0, 90);
        due.with("order 0 0 1 9", "order 0 1 1 9", "order 0 2 1 9").is(0, "value 2").with("pass 1");
        due.is(0, "value 0").is(-5, "value 1").is(4, "value 2").is(3, "takeUp 1 9").is(-5, "value 1");
    }

    private static void promise29Used() {
        indexThrown("used");
        Due due = new Due("used").text(0, "(add 1 2)").fuel(0, 2).fuel(1, 10).with("order 2 0 1 9", "setCredit 1 2 2");
        due.is(0, "used 0").with("pass 1").is(2, "used 0").with("setCredit 1 2 9").is(1, "takeUp 0 3").is(5, "used 0");
        due.is(5, "debt 2 1");
    }

    private static void promise30HourOf() {
        indexThrown("hourOf");
        Due due = new Due("hourOf").with("order 0 0 100 1", "pass 7", "order 0 0 2 1").is(100, "hourOf 0");
        due.is(9, "hourOf 1").with("pass 9").is(9, "hourOf 1");
    }

    private static void promise31LeftBy() {
        Due due = new Due("leftBy").is(Due.INDEX, "leftBy 0 0").with("order 0 1 50 1").is(Due.INDEX, "leftBy 1 8");
        due.is(Due.INDEX, "leftBy -1 0").is(Due.ARGUMENT, "leftBy 0 8").is(Due.ARGUMENT, "leftBy 0 -1");
        due.text(0, "(take a 7)(take b 2)(put a 3)(give 2 a 1)").text(2, "(put a 5)(do(take a 3)x)").fuel(0, 50);
        due.fuel(2, 50).with("supply 0 9", "supply 1 9", "order 0 0 1 50", "order 2 2 1 50", "pass 1");
        due.is(4, "leftBy 1 0").is(2, "leftBy 1 1").is(0, "leftBy 1 2").is(0, "leftBy 0 0").is(-1, "leftBy 2 0");
        due.is(6, "stock -1 0").is(3, "state 2").is(1, "done 2").is(0, "stock 2 0");
    }

    private static void undoneInTheMidst() {
        // the moves of the expression are undone, the earlier ones stay; so do fuel, debts and rations
        Due due = new Due("undone in the midst").with("supply 0 20", "supply 1 20", "giveRations 0 9", "setBuying 0 1");
        due.text(0, "(take a 5)");
        due.text(0, "(do(take a 6)(take b 3)(put a 2)(give 1 a 4)(give 2 b 1)(at 1 1 1)(at 2 1 1)(take a x))");
        due.with("order 0 0 1 100", "pass 1").is(3, "state 0").is(3, "why 0").is(1, "done 0").is(5, "value 0");
        due.is(5, "stock 0 0").is(15, "stock -1 0").is(0, "stock 1 0").is(0, "stock 2 1").is(20, "stock -1 1");
        due.is(5, "stockByMoves 0 0").is(15, "stockByMoves -1 0").is(20, "stockByMoves -1 1").is(1, "moves");
        due.is(3, "orders").is(4, "state 1").is(4, "state 2").is(0, "pass 5").is(25, "used 0").is(6, "rations 0");
        due.is(5, "fuel 0").is(5, "leftBy 0 0").is(0, "leftBy 0 1").is(Due.INDEX, "movedFrom 1");
        // the same when it is dry
        due.with("setBuying 0 0").is(2, "takeUp 0 100").is(1, "moves").is(0, "fuel 0").is(5, "stock 0 0");
        due.is(30, "used 0").is(15, "stock -1 0").with("setBuying 0 1", "erase 0 3").text(0, "9))");
        due.is(1, "takeUp 0 100").is(7, "moves").is(5, "orders").is(0, "state 3").is(0, "state 4").is(2, "done 0");
        due.is(14, "stock 0 0").is(4, "stock 1 0").is(2, "stock -1 0").is(2, "stock 0 1").is(53, "used 0");
    }
}
