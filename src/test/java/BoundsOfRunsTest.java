/** The sentences of the parts "Runs" and "Orders and hours" that name a bound, one by one. */
public final class BoundsOfRunsTest {
    private static final int WAITING = 0, DONE = 1, DRY = 2, FAULTY = 3, UNDONE = 4;
    private static final int BY_TEXT = 1, TOO_DEEP = 2, UNKNOWN = 3, MALFORMED = 4, BY_NOTHING = 5, REFUSED = 6;

    public static void main(String[] args) {
        byTheText();
        fromTheOneOn();
        whenThereAreNoMore();
        allOfThatInIt();
        thenMovesAreUndone();
        ordersThatItMadeAreUndone();
        fuelDebtsAndRationsStay();
        atMost60AreEverMade();
        waitingForThisHour();
        byRisingNumbers();
        theHourWouldBeAbove1000();
        dryOrFaultyCanBeTakenUp();
        byTheTextAsItIsNow();
        withoutFunctions();
        zeroIfItIsNot();
        usedByAllRuns();
        leftBy();
        movesAreNumbered();
        Due.end();
    }

    private static void byTheText() {
        String sentence = "If the text of its script has a fault, it is FAULTY, by the text.";
        for (String text : new String[] {"(", "5)", "5 -", "(take a 1) a1", "1 2 3 4 ("}) {
            Due due = new Due(sentence + " '" + text + "'").text(6, text).with("supply 0 1").fuel(0, 10);
            due.with("order 0 6 1 9").is(1, "pass 1").is(FAULTY, "state 0").is(BY_TEXT, "why 0").is(0, "done 0");
            due.is(0, "used 0").is(10, "fuel 0").is(0, "value 0").is(0, "moves");
        }
        // a fault of another script is none, and neither fuel nor budget is asked for
        Due due = new Due(sentence).text(0, "5").text(1, "(").fuel(0, 10);
        due.with("order 0 0 1 9", "order 1 1 1 1", "pass 1");
        due.is(DONE, "state 0").is(FAULTY, "state 1").is(BY_TEXT, "why 1");
    }

    private static void fromTheOneOn() {
        String sentence = "From the one on of which the number is that of those that are done.";
        Due due = new Due(sentence).text(0, "(take a 1)(take a 2)(take a 3)").with("supply 0 9").fuel(0, 90);
        due.with("order 0 0 1 1", "pass 1").is(0, "done 0").is(DRY, "takeUp 0 2").is(1, "done 0").is(1, "value 0");
        due.is(DRY, "takeUp 0 1").is(1, "done 0").is(DRY, "takeUp 0 2").is(2, "done 0").is(2, "value 0");
        due.is(DONE, "takeUp 0 2").is(3, "done 0").is(3, "value 0").is(6, "stock 0 0").is(3, "moves").is(8, "used 0");
        due = new Due(sentence).text(0, "1 2 3 4 5").fuel(0, 90);
        for (int budget = 1; budget <= 6; budget++) {
            int order = budget - 1;
            due.with("order 0 0 1 " + budget, "pass 1").is(budget < 5 ? DRY : DONE, "state " + order);
            due.is(Math.min(budget, 5), "done " + order).is(Math.min(budget, 5), "value " + order);
        }
    }

    private static void whenThereAreNoMore() {
        String sentence = "When there are no more, the order is DONE.";
        for (String text : new String[] {"", " ", " ".repeat(120)}) {
            Due due = new Due(sentence).text(0, text).with("order 0 0 1 1").is(1, "pass 1").is(DONE, "state 0");
            due.is(0, "done 0").is(0, "used 0").is(0, "value 0").is(0, "why 0");
        }
        Due due = new Due(sentence).text(0, "5").fuel(0, 10).with("setTariff 0").text(1, "1 ".repeat(9));
        due.with("order 0 1 1 9", "order 0 0 1 1", "pass 1").is(0, "fuel 0").is(DONE, "state 0").is(DONE, "state 1");
        due.with("order 0 0 1 1", "pass 1").is(DRY, "state 2");
    }

    private static void allOfThatInIt() {
        String sentence = "If one is too deep, unknown, malformed, divided by nothing, refused, or dry.";
        String[] texts = {"7 (call 0)", "7 x", "7 ()", "7 (mod 1 0)", "7 (take a -1)"};
        int[] reasons = {TOO_DEEP, UNKNOWN, MALFORMED, BY_NOTHING, REFUSED};
        for (int i = 0; i < texts.length; i++) {
            Due due = new Due(sentence + " '" + texts[i] + "'").text(0, texts[i]).fuel(0, 200);
            due.with("order 0 0 1 99", "pass 1").is(FAULTY, "state 0").is(reasons[i], "why 0").is(1, "done 0");
            due.is(7, "value 0");
        }
        // of what goes wrong, that counts which comes first
        Due due = new Due(sentence).text(0, "(add (div 1 0) x)").text(1, "(add x (div 1 0))").fuel(0, 100);
        due.with("order 0 0 1 9", "order 0 1 1 9", "order 0 0 1 3", "pass 1").is(BY_NOTHING, "why 0");
        due.is(UNKNOWN, "why 1");
        due.is(DRY, "state 2").is(0, "why 2").is(4, "used 0").is(2, "used 1").is(3, "used 2");
    }

    private static void thenMovesAreUndone() {
        String sentence = "Then all moves that this expression made are undone.";
        String texts = "(take a 4)(do (take a 3)(give 1 a 5)(put a 1)(take b 9)(give 2 b 9)";
        for (String end : new String[] {"x)", "())", "(div 1 0))", "(buy -1))", "(call 0))"}) {
            Due due = new Due(sentence + " '" + end + "'").text(0, texts + end).with("supply 0 9", "supply 1 7");
            due.fuel(0, 800).with("order 0 0 1 800", "pass 1").is(FAULTY, "state 0").is(1, "done 0").is(1, "moves");
            due.is(4, "stock 0 0").is(5, "stock -1 0").is(0, "stock 1 0").is(0, "stock 0 1").is(0, "stock 2 1");
            due.is(7, "stock -1 1").is(4, "stockByMoves 0 0").is(5, "stockByMoves -1 0").is(7, "stockByMoves -1 1");
            due.is(4, "leftBy 0 0").is(0, "leftBy 0 1").is(4, "movedAmount 0").is(Due.INDEX, "movedAmount 1");
        }
        // those of the expressions ahead and of other orders stay
        Due due = new Due(sentence).text(0, "(take a 1)(take a 1)(do(take a 1)x)").with("supply 0 9").fuel(0, 90);
        due.fuel(3, 90).with("order 3 0 1 90", "order 0 0 1 90", "pass 1").is(4, "moves").is(2, "stock 3 0");
        due.is(2, "stock 0 0").is(5, "stock -1 0").is(0, "movedBy 1").is(1, "movedBy 2");
        // dry in the midst, all is undone as well, and made again when it is taken up
        due = new Due(sentence).text(0, "(do(take a 1)(take a 2))").with("supply 0 9").fuel(0, 90);
        due.with("order 0 0 1 4", "pass 1").is(DRY, "state 0").is(0, "moves").is(9, "stock -1 0").is(0, "stock 0 0");
        due.is(DONE, "takeUp 0 5").is(2, "moves").is(6, "stock -1 0").is(3, "stock 0 0").is(2, "value 0");
    }

    private static void ordersThatItMadeAreUndone() {
        String sentence = "Orders that it made are UNDONE, whatever they are.";
        Due due = new Due(sentence).text(0, "(at 1 1 9)(do(at 1 1 9)(at 5 1 9)x)").text(1, "5").fuel(0, 90);
        due.with("order 0 1 2 9", "order 0 0 1 90").is(1, "pass 1").is(FAULTY, "state 1").is(5, "orders");
        due.is(WAITING, "state 0").is(WAITING, "state 2").is(UNDONE, "state 3").is(UNDONE, "state 4");
        due.is(2, "pass 10").is(DONE, "state 0").is(DONE, "state 2").is(UNDONE, "state 3").is(UNDONE, "state 4");
        due.is(0, "why 3").is(0, "done 3").is(0, "value 3").is(0, "used 3").is(2, "hourOf 3").is(6, "hourOf 4");
        // taken up, it makes new ones, and their numbers go on
        due.with("erase 0 2").text(0, "1)").is(DONE, "takeUp 1 90").is(7, "orders").is(WAITING, "state 5");
        due.is(12, "hourOf 5").is(16, "hourOf 6");
    }

    private static void fuelDebtsAndRationsStay() {
        // six are lent but for one of the 2 that are bought; the other one of these pays a debt
        Due due = new Due("Fuel, debts and rations stay as they are.").text(0, "(do (buy 1) 1 2 x)").fuel(2, 10);
        due.with("setTariff 2", "giveRations 0 3", "setCredit 2 0 4", "order 0 0 1 90", "pass 1");
        due.is(FAULTY, "state 0").is(UNKNOWN, "why 0").is(6, "used 0").is(2, "rations 0").is(0, "fuel 0");
        due.is(4, "debt 0 2").is(6, "fuel 2").is(DRY, "takeUp 0 90").is(6, "used 0").is(4, "debt 0 2");
        due.is(2, "rations 0").is(6, "fuel 2");
    }

    private static void atMost60AreEverMade() {
        Due due = new Due("At most 60 are ever made.").text(0, "(do(at 1 1 1)x)").fuel(0, 90);
        for (int i = 0; i < 58; i++) {
            due.is(i, "order 3 7 1 1");
        }
        // those that are DONE or UNDONE count as well
        due.is(58, "order 0 0 1 9").is(59, "pass 1").is(60, "orders").is(UNDONE, "state 59");
        due.is(Due.STATE, "order 0 0 1 1").is(60, "orders").is(FAULTY, "takeUp 58 9").is(60, "orders");
        due.is(0, "pass 1").is(Due.INDEX, "state 60");
    }

    private static void waitingForThisHour() {
        Due due = new Due("Then all orders that are WAITING for this hour are run; in 1 to 100 hours.");
        due.with("order 0 0 1 1", "order 0 0 2 1", "order 0 0 100 1", "order 0 0 99 1").is(1, "pass 1");
        due.is(DONE, "state 0").is(WAITING, "state 1").is(1, "pass 1").is(DONE, "state 1").is(0, "pass 96");
        due.is(WAITING, "state 3").is(1, "pass 1").is(DONE, "state 3").is(WAITING, "state 2").is(1, "pass 1");
        due.is(DONE, "state 2").is(100, "hour").is(0, "pass 100").with("order 0 0 100 1").is(300, "hourOf 4");
        due.is(0, "pass 99").is(1, "pass 2").is(301, "hour");
        // what is not WAITING is not run again, and none is run in a later hour than its own
        due.text(1, "5").with("order 0 1 1 1").is(1, "pass 1").is(DRY, "state 5").is(0, "pass 100");
    }

    private static void byRisingNumbers() {
        Due due = new Due("The orders of an hour are run by rising numbers, those of an earlier hour first.");
        due.text(0, "(take a 2)").with("supply 0 7").fuel(0, 9).fuel(1, 9).fuel(2, 9).fuel(3, 9);
        due.with("order 3 0 2 9", "order 2 0 1 9", "order 1 0 2 9", "order 0 0 2 9").is(4, "pass 2").is(4, "moves");
        due.is(2, "stock 2 0").is(2, "stock 3 0").is(2, "stock 1 0").is(1, "stock 0 0");
        due.is(1, "movedBy 0").is(0, "movedBy 1").is(2, "movedBy 2").is(3, "movedBy 3");
        // an order that a run makes for the next hour is run in that, in the same call
        due = new Due("Orders made in a passing hour").text(0, "(at 1 1 9)").text(1, "(hour)").fuel(0, 90);
        due.with("order 0 0 1 9").is(2, "pass 2").is(DONE, "state 1").is(2, "value 1").with("order 0 0 1 9");
        due.is(1, "pass 1").is(WAITING, "state 3").is(1, "pass 1").is(4, "value 3");
    }

    private static void theHourWouldBeAbove1000() {
        Due due = new Due("Throws IllegalStateException if the hour would be above 1000.");
        for (int i = 0; i < 9; i++) {
            due.is(0, "pass 100");
        }
        due.is(0, "pass 1").is(Due.STATE, "pass 100").is(901, "hour").with("order 0 0 99 1", "order 0 0 100 1");
        due.is(Due.STATE, "pass 100").is(WAITING, "state 0").is(1, "pass 99").is(1000, "hour");
        due.is(Due.STATE, "pass 1").is(1000, "hour").is(1001, "hourOf 1").is(WAITING, "state 1").is(DONE, "state 0");
    }

    private static void dryOrFaultyCanBeTakenUp() {
        String sentence = "Throws IllegalStateException if it is neither DRY nor FAULTY.";
        Due due = new Due(sentence).text(0, "1").text(1, "x").text(2, "(do(at 9 0 1)x)").fuel(0, 90);
        due.with("order 0 0 1 1", "order 1 0 1 1", "order 0 1 1 1", "order 0 2 1 9", "order 0 0 9 1", "pass 1");
        due.is(DONE, "state 0").is(DRY, "state 1").is(FAULTY, "state 2").is(FAULTY, "state 3").is(WAITING, "state 4");
        due.is(UNDONE, "state 5").is(Due.STATE, "takeUp 0 1").is(DRY, "takeUp 1 1").is(FAULTY, "takeUp 2 1");
        due.is(FAULTY, "takeUp 3 9").is(Due.STATE, "takeUp 4 1").is(Due.STATE, "takeUp 5 1");
        due.is(Due.INDEX, "takeUp 7 1").is(Due.ARGUMENT, "takeUp 1 0").is(Due.ARGUMENT, "takeUp 1 1001");
        due.is(DRY, "takeUp 1 1000");
        due.fuel(1, 10).is(DONE, "takeUp 1 1").is(Due.STATE, "takeUp 1 1");
    }

    private static void byTheTextAsItIsNow() {
        String sentence = "From the expression on that was not done, by the text as it is now.";
        Due due = new Due(sentence).text(0, "1 2 3 x").fuel(0, 90).with("order 0 0 1 9", "pass 1").is(3, "done 0");
        // as many expressions as are done, and fewer
        due.with("erase 0 1").is(DONE, "takeUp 0 9").is(3, "done 0").is(3, "value 0").is(4, "used 0");
        due = new Due(sentence).text(0, "1 2 3 x").fuel(0, 90).with("order 0 0 1 9", "pass 1", "erase 0 5");
        due.is(DONE, "takeUp 0 9").is(3, "done 0").is(3, "value 0").is(4, "used 0").is(0, "why 0");
        due = new Due(sentence).text(0, "1 2 3 x").fuel(0, 90).with("order 0 0 1 9", "pass 1", "erase 0 99");
        due.text(0, "x x x 7 8").is(DONE, "takeUp 0 9").is(5, "done 0").is(8, "value 0").is(6, "used 0");
        // a fault comes and goes
        due = new Due(sentence).text(0, "1 x").fuel(0, 90).with("order 0 0 1 9", "pass 1", "type 0 40");
        due.is(FAULTY, "takeUp 0 9").is(BY_TEXT, "why 0").is(1, "done 0").is(2, "used 0").with("erase 0 2");
        due.is(DONE, "takeUp 0 9").is(0, "why 0");
    }

    private static void withoutFunctions() {
        Due due = new Due("It is taken up without functions.").text(0, "(def ff()5)(ff)(div 0 0)(ff)").fuel(0, 90);
        due.with("order 0 0 1 9", "pass 1").is(BY_NOTHING, "why 0").is(2, "done 0").is(5, "value 0").with("erase 0 13");
        due.text(0, "(ff)").is(FAULTY, "takeUp 0 9").is(UNKNOWN, "why 0").is(2, "done 0").with("erase 0 4");
        due.text(0, "(def ff()6)(ff)").is(DONE, "takeUp 0 9").is(6, "value 0").is(4, "done 0");
    }

    private static void zeroIfItIsNot() {
        String sentence = "Why is 0 if it is not FAULTY; the value is 0 if none was done.";
        Due due = new Due(sentence).text(0, "7 x").fuel(0, 90).with("order 0 0 1 1").is(0, "why 0").is(0, "value 0");
        due.is(0, "done 0").is(0, "used 0").with("pass 1").is(DRY, "state 0").is(0, "why 0").is(7, "value 0");
        due.is(FAULTY, "takeUp 0 9").is(UNKNOWN, "why 0").is(7, "value 0");
        due.with("order 1 0 1 1", "pass 1").is(DRY, "state 1").is(0, "value 1").is(0, "why 1");
        due = new Due(sentence).text(0, "x").fuel(0, 90).with("order 0 0 1 1", "pass 1").is(UNKNOWN, "why 0");
        due.is(0, "value 0").with("erase 0 1").is(DONE, "takeUp 0 1").is(0, "why 0").is(0, "value 0");
    }

    private static void usedByAllRuns() {
        Due due = new Due("How much fuel all runs of an order have used together.").text(0, "(add 1 2)");
        due.with("setTariff 5", "giveRations 0 2", "buy 0 1", "order 0 0 1 2", "pass 1").is(2, "used 0");
        due.is(DRY, "takeUp 0 1").is(3, "used 0").is(DRY, "takeUp 0 9").is(5, "used 0").is(DRY, "takeUp 0 9");
        due.is(5, "used 0").is(0, "fuel 0");
        due.with("buy 0 1").is(DONE, "takeUp 0 3").is(8, "used 0").is(2, "fuel 0");
    }

    private static void leftBy() {
        Due due = new Due("How much of a good has left the store by an order: what it took less what it put.");
        due.text(0, "(take a 5)(put a 2)(give 1 a 2)(put a 9)").text(1, "(put a 9)").with("supply 0 9").fuel(0, 90);
        due.fuel(1, 90).with("order 0 0 1 90", "order 1 1 1 90", "pass 1").is(2, "leftBy 0 0").is(-2, "leftBy 1 0");
        due.is(9, "stock -1 0").is(0, "leftBy 0 7").is(Due.ARGUMENT, "leftBy 0 8").is(Due.INDEX, "leftBy 2 0");
    }

    private static void movesAreNumbered() {
        String sentence = "Moves are numbered from 0, those that were undone left out. A move of 0 is none.";
        Due due = new Due(sentence).text(0, "(take a 0)(take b 1)(take a 1)(do(take a 2)x)");
        due.with("supply 0 9").fuel(0, 90).is(Due.INDEX, "movedBy 0").with("order 0 0 1 90", "pass 1");
        due.is(1, "moves").is(1, "movedAmount 0");
        due.with("erase 0 2").text(0, "(take a 3))").is(DONE, "takeUp 0 90").is(3, "moves").is(2, "movedAmount 1");
        due.is(3, "movedAmount 2").is(Due.INDEX, "movedAmount 3").is(Due.INDEX, "movedAmount -1");
    }
}
