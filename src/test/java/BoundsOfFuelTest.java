/** The sentences of the part "Stocks, fuel and debts" that name a bound, one by one, each looked at on both sides. */
public final class BoundsOfFuelTest {
    public static void main(String[] args) {
        allIsZeroAtFirst();
        theTariffIs10AtFirst();
        halfPaysDebts();
        asFarAsItHasSome();
        byRisingLenders();
        theLimitIs0AtFirst();
        aDebtAboveTheLimitStays();
        itDoesNotBuyAtFirst();
        atTheBudgetItTakesNone();
        ownFuelComesFirst();
        itBuysIfItHasARation();
        ifThereIsSomeThen();
        theFirstOtherCompany();
        ifThereIsNoneSuch();
        notSoManyRations();
        theDebtIsLess();
        supplyAndRationsAddUp();
        Due.end();
    }

    private static void allIsZeroAtFirst() {
        Due due = new Due("A stock, rations and fuel are 0 at first.");
        for (int company = 0; company < 4; company++) {
            due.is(0, "fuel " + company).is(0, "rations " + company).is(0, "stock " + company + " 7");
            due.is(Due.STATE, "buy " + company + " 1");
        }
        due.text(0, "(take a 1)").fuel(0, 10).with("order 0 0 1 9", "pass 1").is(0, "value 0").is(0, "moves");
    }

    private static void theTariffIs10AtFirst() {
        Due due = new Due("A ration buys as much fuel as the tariff tells, 10 at first.").with("giveRations 0 9");
        due.is(10, "buy 0 1").is(10, "fuel 0").is(10, "setTariff 1").is(1, "buy 0 1").is(1, "setTariff 0");
        due.is(0, "buy 0 2").is(11, "fuel 0").is(5, "rations 0").is(0, "setTariff 100").is(500, "buy 0 5");
        due.is(511, "fuel 0").is(100, "setTariff 100");
    }

    /** Lets company 0 owe as much as told to company 2, and use it up; company 2 has 100 less that. */
    private static Due owing(String sentence, int debt) {
        Due due = new Due(sentence).text(0, "1 ".repeat(debt)).fuel(2, 100).with("setCredit 2 0 1000");
        due.with("giveRations 0 100", "order 0 0 1 1000", "pass 1").is(debt, "debt 0 2").is(0, "fuel 0");
        return due.is(1, "state 0").is(100 - debt, "fuel 2");
    }

    private static void halfPaysDebts() {
        String sentence = "Half of what it gets, rounded down, first pays its debts back; the rest is its own.";
        owing(sentence, 9).with("setTariff 8").is(8, "buy 0 1").is(5, "debt 0 2").is(4, "fuel 0").is(95, "fuel 2");
        owing(sentence, 9).with("setTariff 7").is(7, "buy 0 1").is(6, "debt 0 2").is(4, "fuel 0").is(94, "fuel 2");
        owing(sentence, 9).with("setTariff 1").is(1, "buy 0 1").is(9, "debt 0 2").is(1, "fuel 0").is(91, "fuel 2");
        // half of all that the rations buy together, not of each
        owing(sentence, 9).with("setTariff 1").is(3, "buy 0 3").is(8, "debt 0 2").is(2, "fuel 0").is(92, "fuel 2");
        owing(sentence, 9).with("setTariff 0").is(0, "buy 0 3").is(9, "debt 0 2").is(0, "fuel 0").is(97, "rations 0");
    }

    private static void asFarAsItHasSome() {
        String sentence = "Half of what it gets pays its debts back, as far as it has some.";
        owing(sentence, 4).with("setTariff 8").is(8, "buy 0 1").is(0, "debt 0 2").is(4, "fuel 0").is(100, "fuel 2");
        owing(sentence, 4).with("setTariff 9").is(9, "buy 0 1").is(0, "debt 0 2").is(5, "fuel 0").is(100, "fuel 2");
        owing(sentence, 4).with("setTariff 10").is(10, "buy 0 1").is(0, "debt 0 2").is(6, "fuel 0").is(100, "fuel 2");
        owing(sentence, 4).with("setTariff 7").is(7, "buy 0 1").is(1, "debt 0 2").is(4, "fuel 0").is(99, "fuel 2");
        owing(sentence, 4).is(1000, "buy 0 100").is(0, "debt 0 2").is(996, "fuel 0").is(100, "fuel 2");
    }

    /** Lets company 1 owe 2 to company 0, 2 to company 2, and 2 to company 3; these have 8 each. */
    private static Due owingAll(String sentence) {
        Due due = new Due(sentence).text(0, "1 2 3 4 5 6").fuel(0, 10).fuel(2, 10).fuel(3, 10);
        due.with("setCredit 0 1 2", "setCredit 2 1 2", "setCredit 3 1 2", "order 1 0 1 9", "pass 1", "giveRations 1 9");
        return due.is(1, "state 0").is(8, "fuel 0").is(8, "fuel 2").is(8, "fuel 3");
    }

    private static void byRisingLenders() {
        String sentence = "Debts are paid back by rising lenders, whose fuel grows by that.";
        Due due = owingAll(sentence).with("setTariff 6").is(6, "buy 1 1").is(0, "debt 1 0").is(1, "debt 1 2");
        due.is(2, "debt 1 3").is(3, "fuel 1").is(10, "fuel 0").is(9, "fuel 2").is(8, "fuel 3");
        due = owingAll(sentence).with("setTariff 4").is(4, "buy 1 1").is(0, "debt 1 0").is(2, "debt 1 2");
        due.is(2, "debt 1 3").is(2, "fuel 1");
        due = owingAll(sentence).with("setTariff 12").is(12, "buy 1 1").is(0, "debt 1 0").is(0, "debt 1 2");
        due.is(0, "debt 1 3").is(6, "fuel 1").is(10, "fuel 3");
    }

    private static void theLimitIs0AtFirst() {
        Due due = new Due("Another one lends it fuel up to a limit, 0 at first.").text(0, "1 2 3").fuel(3, 10);
        due.with("order 2 0 1 9", "pass 1").is(2, "state 0").is(0, "debt 2 3").is(10, "fuel 3").is(0, "used 0");
        due.is(0, "setCredit 3 2 1").is(2, "takeUp 0 9").is(1, "debt 2 3").is(1, "done 0").is(9, "fuel 3");
        due.is(1, "setCredit 3 2 2").is(2, "takeUp 0 9").is(2, "debt 2 3").is(2, "done 0");
        due.is(2, "setCredit 3 2 1000").is(1, "takeUp 0 9").is(3, "debt 2 3").is(7, "fuel 3").is(0, "fuel 2");
    }

    private static void aDebtAboveTheLimitStays() {
        Due due = owing("A debt above the limit stays.", 4).is(1000, "setCredit 2 0 3").is(4, "debt 0 2");
        due.with("type 0 55", "order 0 0 1 9", "pass 1").is(2, "state 1").is(0, "done 1").is(4, "debt 0 2");
        due.is(3, "setCredit 2 0 4").is(2, "takeUp 1 9").is(0, "used 1").is(4, "setCredit 2 0 5").is(2, "takeUp 1 9");
        due.is(1, "used 1").is(5, "debt 0 2").is(5, "setCredit 2 0 0").is(5, "debt 0 2");
        // paid back, it may borrow again, but only up to the limit
        due.with("setTariff 4", "buy 0 1").is(3, "debt 0 2").is(2, "payBack 0 2 1").is(1, "fuel 0");
        due.with("setCredit 2 0 3").is(2, "takeUp 1 9").is(3, "used 1").is(3, "debt 0 2").is(0, "fuel 0");
    }

    private static void itDoesNotBuyAtFirst() {
        Due due = new Due("A company buys by itself, or does not, as at first.").text(0, "1");
        due.with("giveRations 0 1", "order 0 0 1 9", "pass 1").is(2, "state 0").is(1, "rations 0");
        due.is(0, "setBuying 0 1").is(1, "takeUp 0 9").is(0, "rations 0").is(9, "fuel 0").is(1, "setBuying 0 0");
    }

    private static void atTheBudgetItTakesNone() {
        String sentence = "If it has used as much as its budget, it is dry, and takes none.";
        Due due = new Due(sentence).text(0, "1 2").fuel(0, 10).with("order 0 0 1 1", "order 0 0 1 2", "pass 1");
        due.is(2, "state 0").is(1, "used 0").is(1, "done 0").is(1, "state 1").is(2, "used 1").is(7, "fuel 0");
        // it buys and borrows nothing then either
        due = new Due(sentence).text(0, "1 2").fuel(1, 10).with("setTariff 1", "giveRations 0 5", "setBuying 0 1");
        due.with("setCredit 1 0 5", "order 0 0 1 1", "pass 1").is(2, "state 0").is(4, "rations 0").is(0, "fuel 0");
        due.is(0, "debt 0 1").is(10, "fuel 1").is(1, "takeUp 0 1").is(3, "rations 0").is(2, "used 0");
        due = new Due(sentence).text(0, "1 2").fuel(1, 10).with("setCredit 1 0 5", "order 0 0 1 1", "pass 1");
        due.is(2, "state 0").is(1, "debt 0 1").is(9, "fuel 1").is(1, "takeUp 0 1").is(2, "debt 0 1");
        // the greatest budget
        due = new Due(sentence).text(0, "(while 1 1)").with("setTariff 100").is(100, "setTariff 100");
        due.with("giveRations 0 20", "buy 0 20", "order 0 0 1 1000", "pass 1").is(2, "state 0").is(1000, "used 0");
        due.is(1000, "fuel 0").is(2, "takeUp 0 999").is(1999, "used 0").is(1, "fuel 0").is(2, "takeUp 0 2");
        due.is(2000, "used 0").is(0, "fuel 0");
    }

    private static void ownFuelComesFirst() {
        Due due = new Due("It takes it from the company, if that has some.").text(0, "1 2").fuel(1, 10).fuel(2, 10);
        due.with("setTariff 1", "giveRations 0 3", "buy 0 1", "setBuying 0 1", "setCredit 1 0 9");
        due.with("order 0 0 1 1", "pass 1").is(0, "fuel 0").is(2, "rations 0").is(0, "debt 0 1").is(1, "used 0");
    }

    private static void itBuysIfItHasARation() {
        String sentence = "If the company buys by itself and has a ration, it buys fuel for one first.";
        Due due = new Due(sentence).text(0, "1 2 3").with("setTariff 1", "setBuying 0 1", "giveRations 0 2");
        due.with("order 0 0 1 9", "pass 1").is(2, "state 0").is(2, "done 0").is(0, "rations 0").is(0, "fuel 0");
        // for one only, and half of that pays debts
        due = owing(sentence, 4).with("setTariff 6", "setBuying 0 1", "erase 0 99", "type 0 55");
        due.with("order 0 0 1 9", "pass 1").is(1, "state 1").is(99, "rations 0").is(1, "debt 0 2").is(2, "fuel 0");
        due.is(99, "fuel 2");
        // it buys ahead of borrowing, and borrows without a ration
        due = new Due(sentence).text(0, "1 2").fuel(3, 10).with("setTariff 1", "setBuying 0 1", "giveRations 0 1");
        due.with("setCredit 3 0 9", "order 0 0 1 9", "pass 1").is(1, "state 0").is(0, "rations 0").is(1, "debt 0 3");
    }

    private static void ifThereIsSomeThen() {
        String sentence = "It takes it from that, if there is some then; otherwise it is lent.";
        Due due = new Due(sentence).text(0, "1 2").fuel(2, 10).with("setTariff 0", "setBuying 0 1", "giveRations 0 4");
        due.with("order 0 0 1 9", "pass 1").is(2, "state 0").is(0, "done 0").is(3, "rations 0").is(0, "used 0");
        due.with("setCredit 2 0 1").is(2, "takeUp 0 9").is(1, "done 0").is(1, "used 0").is(1, "debt 0 2");
        due.is(1, "rations 0").is(9, "fuel 2").with("setTariff 1").is(1, "takeUp 0 9").is(0, "rations 0");
        due.is(0, "fuel 0").is(1, "debt 0 2").is(9, "fuel 2");
    }

    private static void theFirstOtherCompany() {
        String sentence = "From the first other company that has fuel, and whose limit is above its debt.";
        Due due = new Due(sentence).text(0, "1 2 3 4 5 6 7").fuel(1, 10).fuel(3, 10);
        due.with("setCredit 0 2 9", "setCredit 1 2 2", "setCredit 3 2 4", "order 2 0 1 1", "pass 1");
        due.is(1, "debt 2 1").is(0, "debt 2 3").is(2, "takeUp 0 1").is(2, "debt 2 1").is(2, "takeUp 0 1");
        due.is(2, "debt 2 1").is(1, "debt 2 3").is(2, "takeUp 0 9").is(4, "debt 2 3").is(6, "done 0").is(6, "fuel 3");
        due.is(8, "fuel 1").is(0, "debt 2 0").is(6, "used 0").with("setCredit 1 2 3").is(1, "takeUp 0 9");
        due.is(3, "debt 2 1");
        // a limit for another one is none for it
        due = new Due(sentence).text(0, "1").fuel(0, 10).with("setCredit 0 2 9", "setCredit 1 0 9");
        due.with("order 1 0 1 9", "pass 1").is(2, "state 0").is(10, "fuel 0");
    }

    private static void ifThereIsNoneSuch() {
        Due due = new Due("If there is none such, the run is dry.").text(0, "1 2 3").with("setTariff 1");
        due.with("giveRations 0 1", "buy 0 1", "giveRations 3 1", "buy 3 1", "setCredit 3 0 9", "order 0 0 1 9");
        due.with("pass 1").is(2, "state 0").is(2, "done 0").is(2, "used 0").is(1, "debt 0 3").is(0, "fuel 3");
        due.is(0, "why 0").is(2, "takeUp 0 9").is(2, "used 0").is(1, "debt 0 3");
    }

    private static void notSoManyRations() {
        Due due = new Due("Throws IllegalStateException if it has not so many rations.").with("giveRations 3 7");
        due.is(Due.STATE, "buy 3 8").is(7, "rations 3").is(0, "fuel 3").is(70, "buy 3 7").is(Due.STATE, "buy 3 1");
        due.is(70, "fuel 3").is(Due.STATE, "buy 3 2147483647");
    }

    private static void theDebtIsLess() {
        String sentence = "Throws IllegalStateException if the debt is less, or the borrower has less fuel.";
        // company 0 owes 3 and has 3 fuel
        Due due = owing(sentence, 4).with("setTariff 2", "buy 0 1", "buy 0 1").is(2, "debt 0 2").is(2, "fuel 0");
        due.is(Due.STATE, "payBack 0 2 3").is(0, "payBack 0 2 2").is(0, "fuel 0").is(100, "fuel 2");
        due = owing(sentence, 9).with("setTariff 2", "buy 0 2").is(7, "debt 0 2").is(2, "fuel 0");
        due.is(Due.STATE, "payBack 0 2 3").is(2, "fuel 0").is(5, "payBack 0 2 2").is(0, "fuel 0");
        due.is(Due.STATE, "payBack 0 2 1").is(5, "debt 0 2");
        due = owing(sentence, 1).with("setTariff 10", "buy 0 1").is(0, "debt 0 2").is(9, "fuel 0");
        due.is(Due.STATE, "payBack 0 2 1").is(Due.STATE, "payBack 0 1 1").is(Due.STATE, "payBack 2 0 1");
    }

    private static void supplyAndRationsAddUp() {
        Due due = new Due("Supply and rations are 1 to 1000 a call, and add up above that.");
        due.is(1000, "supply 7 1000").is(1001, "supply 7 1").is(2001, "supply 7 1000").is(2001, "stockByMoves -1 7");
        due.is(Due.ARGUMENT, "supply 7 1001").is(Due.ARGUMENT, "supply 7 0").is(2001, "stock -1 7");
        due.is(1000, "giveRations 3 1000").is(1001, "giveRations 3 1").is(2001, "giveRations 3 1000");
        due.is(Due.ARGUMENT, "giveRations 3 1001").is(Due.ARGUMENT, "giveRations 3 0").is(2001, "rations 3");
    }
}
