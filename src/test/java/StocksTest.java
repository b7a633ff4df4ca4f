/** Promises 8 to 19: stocks, fuel and debts. */
public final class StocksTest {
    public static void main(String[] args) {
        promise8Supply();
        promise9GiveRations();
        promise10SetTariff();
        promise11Buy();
        promise11BuyPaysDebts();
        promise12SetBuying();
        promise12BuyingByItself();
        promise13SetCredit();
        promise13Lending();
        promise14PayBack();
        promise15Stock();
        promise16StockByMoves();
        promise17Fuel();
        promise18Rations();
        promise19Debt();
        Due.end();
    }

    private static void promise8Supply() {
        Due due = new Due("supply").is(1, "supply 0 1").is(1001, "supply 0 1000").is(7, "supply 7 7");
        due.is(Due.ARGUMENT, "supply -1 1").is(Due.ARGUMENT, "supply 8 1").is(Due.ARGUMENT, "supply 0 0");
        due.is(Due.ARGUMENT, "supply 0 1001").is(Due.ARGUMENT, "supply 0 -1");
        due.is(1001, "stock -1 0").is(7, "stock -1 7").is(0, "stock 0 0").is(0, "stock -1 1");
    }

    private static void promise9GiveRations() {
        Due due = new Due("giveRations").is(1, "giveRations 0 1").is(1001, "giveRations 0 1000");
        due.is(3, "giveRations 3 3").is(Due.ARGUMENT, "giveRations 4 1").is(Due.ARGUMENT, "giveRations -1 1");
        due.is(Due.ARGUMENT, "giveRations 0 0").is(Due.ARGUMENT, "giveRations 0 1001");
        due.is(1001, "rations 0").is(3, "rations 3").is(0, "rations 1");
    }

    private static void promise10SetTariff() {
        Due due = new Due("setTariff").is(10, "setTariff 0").is(0, "setTariff 100").is(100, "setTariff 7");
        due.is(Due.ARGUMENT, "setTariff -1").is(Due.ARGUMENT, "setTariff 101").is(7, "setTariff 7");
        due.with("giveRations 1 5").is(21, "buy 1 3").with("setTariff 0").is(0, "buy 1 2").is(0, "rations 1");
    }

    private static void promise11Buy() {
        Due due = new Due("buy").with("giveRations 2 5").is(30, "buy 2 3").is(30, "fuel 2").is(2, "rations 2");
        due.is(Due.STATE, "buy 2 3").is(30, "fuel 2").is(2, "rations 2").is(Due.STATE, "buy 1 1");
        due.is(Due.ARGUMENT, "buy 2 0").is(Due.ARGUMENT, "buy 4 1").is(Due.ARGUMENT, "buy -1 1");
        due.is(Due.ARGUMENT, "buy 2 -1").is(20, "buy 2 2").is(50, "fuel 2").is(0, "rations 2");
        due.is(Due.STATE, "buy 2 " + Integer.MAX_VALUE);
    }

    /** Lets company 3 owe 4, 6 and 5 to the companies 0, 1 and 2, and use up what it borrowed. */
    private static Due debts(String name) {
        Due due = new Due(name).text(0, "1".concat(" 1".repeat(14)));
        due.fuel(0, 10).fuel(1, 10).fuel(2, 10);
        due.with("setCredit 0 3 4", "setCredit 1 3 6", "setCredit 2 3 9", "order 3 0 1 1000", "pass 1");
        return due.is(4, "debt 3 0").is(6, "debt 3 1").is(5, "debt 3 2").is(0, "fuel 3");
    }

    private static void promise11BuyPaysDebts() {
        Due due = debts("buy pays debts").with("giveRations 3 9").is(10, "buy 3 1");
        due.is(0, "debt 3 0").is(5, "debt 3 1").is(5, "debt 3 2").is(5, "fuel 3");
        due.is(10, "fuel 0").is(5, "fuel 1").is(5, "fuel 2");
        due.with("setTariff 5").is(5, "buy 3 1").is(3, "debt 3 1").is(8, "fuel 3").is(7, "fuel 1");
        due.with("setTariff 1").is(1, "buy 3 1").is(3, "debt 3 1").is(9, "fuel 3");
        due.with("setTariff 20").is(20, "buy 3 1").is(0, "debt 3 1").is(0, "debt 3 2").is(21, "fuel 3");
        due.is(10, "fuel 1").is(10, "fuel 2").is(20, "buy 3 1").is(41, "fuel 3");
    }

    private static void promise12SetBuying() {
        Due due = new Due("setBuying").is(0, "setBuying 0 1").is(1, "setBuying 0 1").is(1, "setBuying 0 0");
        due.is(0, "setBuying 0 0").is(0, "setBuying 3 1").is(Due.ARGUMENT, "setBuying 4 1");
        due.is(Due.ARGUMENT, "setBuying -1 1").is(1, "setBuying 3 1").is(0, "setBuying 2 0");
    }

    private static void promise12BuyingByItself() {
        Due due = new Due("buying by itself").text(0, "1 2 3 4 5 6 7").fuel(2, 10);
        due.with("setTariff 3", "giveRations 1 2", "order 1 0 1 1000", "pass 1").is(2, "state 0").is(2, "rations 1");
        due.with("setBuying 1 1").is(2, "takeUp 0 2").is(1, "fuel 1").is(1, "rations 1").is(2, "used 0");
        due.is(2, "takeUp 0 1000").is(6, "done 0").is(0, "rations 1").is(0, "fuel 1").is(6, "used 0");
        due.is(2, "takeUp 0 1000").is(6, "used 0").is(6, "value 0");
        // At a tariff of 0 a ration is spent for nothing, and the fuel is lent.
        due.with("giveRations 1 5", "setTariff 0", "setCredit 2 1 1");
        due.is(1, "takeUp 0 1000").is(4, "rations 1").is(1, "debt 1 2").is(7, "done 0").is(9, "fuel 2");
        // Of the 2 bought, 1 pays the debt and 1 is used; a run without budget buys nothing then.
        due.text(1, "1 2").with("setTariff 2", "order 1 1 1 1", "pass 1").is(2, "state 1").is(1, "done 1");
        due.is(3, "rations 1").is(0, "fuel 1").is(0, "debt 1 2").is(10, "fuel 2");
    }

    private static void promise13SetCredit() {
        Due due = new Due("setCredit").is(0, "setCredit 0 1 1000").is(1000, "setCredit 0 1 0");
        due.is(0, "setCredit 0 1 7").is(0, "setCredit 1 0 5").is(7, "setCredit 0 1 7").is(5, "setCredit 1 0 5");
        due.is(Due.ARGUMENT, "setCredit 0 0 1").is(Due.ARGUMENT, "setCredit 4 0 1").is(Due.ARGUMENT, "setCredit 0 4 1");
        due.is(Due.ARGUMENT, "setCredit -1 0 1").is(Due.ARGUMENT, "setCredit 0 -1 1");
        due.is(Due.ARGUMENT, "setCredit 0 1 -1").is(Due.ARGUMENT, "setCredit 0 1 1001").is(7, "setCredit 0 1 7");
    }

    private static void promise13Lending() {
        Due due = debts("lending").is(15, "used 0").is(6, "fuel 0").is(4, "fuel 1").is(5, "fuel 2");
        // a debt above the limit stays, and is no credit; equal to it is none either
        due.with("setCredit 0 3 3", "setCredit 1 3 6", "setCredit 2 3 6").text(1, "1 1");
        due.with("order 3 1 1 9", "pass 1").is(2, "state 1").is(1, "done 1").is(4, "debt 3 0").is(6, "debt 3 2");
        due.is(4, "fuel 2").is(0, "fuel 3");
        // one without fuel lends none, and no company lends to itself; own fuel comes first
        Due other = new Due("lending without fuel").text(0, "1 2 3").fuel(2, 10);
        other.with("setCredit 0 1 9", "setCredit 2 1 9", "setCredit 1 2 9", "order 1 0 1 9", "pass 1");
        other.is(1, "state 0").is(0, "debt 1 0").is(3, "debt 1 2").is(7, "fuel 2");
        other.with("order 2 0 1 9", "pass 1").is(4, "fuel 2").is(0, "debt 2 1").is(1, "state 1");
        other.text(1, "1 2 3 4 5").with("order 1 1 1 9", "pass 1").is(2, "state 2").is(4, "done 2").is(0, "fuel 2");
        other.is(7, "debt 1 2");
    }

    private static void promise14PayBack() {
        Due due = debts("payBack").is(Due.STATE, "payBack 3 0 1").with("giveRations 3 9", "setTariff 3", "buy 3 1");
        due.is(3, "debt 3 0").is(2, "fuel 3").is(7, "fuel 0");
        due.is(Due.STATE, "payBack 3 0 3").is(3, "debt 3 0").is(1, "payBack 3 0 2").is(0, "fuel 3").is(9, "fuel 0");
        due.with("setTariff 100", "buy 3 2").is(0, "debt 3 0").is(Due.STATE, "payBack 3 0 1");
        due.is(Due.ARGUMENT, "payBack 4 0 1").is(Due.ARGUMENT, "payBack 0 4 1").is(Due.ARGUMENT, "payBack -1 0 1");
        due.is(Due.ARGUMENT, "payBack 0 -1 1").is(Due.ARGUMENT, "payBack 3 0 0").is(Due.ARGUMENT, "payBack 3 0 -1");
        due.is(Due.STATE, "payBack 3 3 1").is(Due.STATE, "payBack 0 3 1");
        Due more = debts("payBack all").with("setTariff 1", "giveRations 3 9", "buy 3 1", "buy 3 1");
        more.is(2, "fuel 3").is(4, "payBack 3 2 1").is(1, "fuel 3").is(6, "fuel 2").is(Due.STATE, "payBack 3 2 2");
        more.with("buy 3 1", "buy 3 1", "buy 3 1", "buy 3 1").is(5, "fuel 3").is(Due.STATE, "payBack 3 2 5");
        more.is(0, "payBack 3 2 4").is(1, "fuel 3").is(10, "fuel 2").is(0, "debt 3 2").is(4, "debt 3 0");
    }

    private static void promise15Stock() {
        Due due = moved("stock");
        due.is(2, "stock -1 0").is(3, "stock 1 0").is(4, "stock 2 0").is(0, "stock 0 0").is(8, "stock -1 7");
        due.is(Due.ARGUMENT, "stock -2 0").is(Due.ARGUMENT, "stock 4 0").is(Due.ARGUMENT, "stock 0 8");
        due.is(Due.ARGUMENT, "stock 0 -1");
    }

    private static void promise16StockByMoves() {
        Due due = moved("stockByMoves");
        due.is(2, "stockByMoves -1 0").is(3, "stockByMoves 1 0").is(4, "stockByMoves 2 0");
        due.is(0, "stockByMoves 0 0").is(8, "stockByMoves -1 7").is(1, "stockByMoves 1 7");
        due.is(Due.ARGUMENT, "stockByMoves -2 0").is(Due.ARGUMENT, "stockByMoves 4 0");
        due.is(Due.ARGUMENT, "stockByMoves 0 8").is(Due.ARGUMENT, "stockByMoves 0 -1");
    }

    /** Of 9 of good 0, company 1 takes 8, puts 1 and gives 4 to company 2; of 9 of good 7 it takes 1. */
    private static Due moved(String name) {
        Due due = new Due(name).text(0, "(take a 8)(put a 1)(give 2 a 4)(take h 1)").fuel(1, 100);
        return due.with("supply 0 5", "supply 0 4", "supply 7 9", "order 1 0 1 100", "pass 1").is(1, "state 0");
    }

    private static void promise17Fuel() {
        Due due = new Due("fuel").fuel(2, 50).is(50, "fuel 2").is(0, "fuel 0");
        due.is(Due.ARGUMENT, "fuel 4").is(Due.ARGUMENT, "fuel -1");
    }

    private static void promise18Rations() {
        Due due = new Due("rations").with("giveRations 3 8", "buy 3 3").is(5, "rations 3").is(0, "rations 0");
        due.is(Due.ARGUMENT, "rations 4").is(Due.ARGUMENT, "rations -1");
    }

    private static void promise19Debt() {
        Due due = debts("debt").is(0, "debt 0 3").is(0, "debt 3 3").is(4, "debt 3 0");
        due.is(Due.ARGUMENT, "debt 4 0").is(Due.ARGUMENT, "debt 0 4").is(Due.ARGUMENT, "debt -1 0");
        due.is(Due.ARGUMENT, "debt 0 -1");
    }
}
