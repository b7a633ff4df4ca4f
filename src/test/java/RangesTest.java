import java.util.List;

/** Promises 2 to 37: each argument at its bounds and beside them, and which exception comes first. */
public final class RangesTest {
    private static final int MOST_CALLS = 400;

    private static Due due;
    private static int made;

    public static void main(String[] args) {
        for (String told : Ranges.CALLS) {
            int arguments = told.split(" ").length - 1;
            for (int mask = 0; mask < 1 << arguments; mask++) {
                boolean[] areWrong = new boolean[arguments + 1];
                for (int i = 1; i <= arguments; i++) {
                    areWrong[i] = (mask >> (i - 1) & 1) != 0;
                }
                look(told, areWrong);
            }
        }
        sameCompanies();
        statesBehindArguments();
        Due.end();
    }

    private static void look(String told, boolean[] areWrong) {
        String answer = Ranges.due(told, areWrong, "");
        List<String> calls = Ranges.calls(told, areWrong);
        if (answer.isEmpty()) {
            for (String call : calls) {
                prepared().isTaken(call);
            }
            return;
        }
        made = MOST_CALLS;
        for (String call : calls) {
            if (made >= MOST_CALLS) {
                due = prepared();
                made = 0;
            }
            due.is(answer, call);
            made++;
        }
    }

    /** Every script has a sign; there is an order, which is DONE, and a move, both of the number 0. */
    private static Due prepared() {
        Due made = new Due("ranges");
        for (int script = 0; script < 7; script++) {
            made.text(script, " ");
        }
        made.text(7, "(take a 1)").fuel(0, 10).with("supply 0 1", "order 0 7 1 2", "pass 1");
        return made.is(1, "state 0").is(1, "moves");
    }

    private static void sameCompanies() {
        Due same = new Due("lender and borrower");
        for (int company = 0; company < 4; company++) {
            same.is(Due.ARGUMENT, "setCredit " + company + " " + company + " 0");
            same.is(Due.ARGUMENT, "setCredit " + company + " " + company + " 1000");
            same.is(Due.STATE, "payBack " + company + " " + company + " 1").is(0, "debt " + company + " " + company);
            for (int other = 0; other < 4; other++) {
                if (other != company) {
                    same.is(0, "setCredit " + company + " " + other + " " + (10 * company + other));
                }
            }
        }
        for (int company = 0; company < 4; company++) {
            for (int other = 0; other < 4; other++) {
                if (other != company) {
                    same.is(10 * company + other, "setCredit " + company + " " + other + " 0");
                }
            }
        }
    }

    /** Where the state forbids a call too, a wrong argument comes first. */
    private static void statesBehindArguments() {
        Due full = new Due("a full script").text(0, " ".repeat(120));
        full.is(Due.STATE, "type 0 32").is(Due.ARGUMENT, "type 0 33").is(Due.ARGUMENT, "type 8 32");
        Due poor = new Due("no rations, no debt");
        poor.is(Due.STATE, "buy 3 1").is(Due.ARGUMENT, "buy 3 0").is(Due.ARGUMENT, "buy 4 1");
        poor.is(Due.STATE, "payBack 3 2 1").is(Due.ARGUMENT, "payBack 3 2 0").is(Due.ARGUMENT, "payBack 3 4 1");
        Due many = new Due("60 orders in the hour 1000");
        for (int i = 0; i < 10; i++) {
            many.is(0, "pass 100");
        }
        for (int i = 0; i < 60; i++) {
            many.is(i, "order 0 0 1 1");
        }
        many.is(Due.STATE, "order 0 0 1 1").is(Due.ARGUMENT, "order 0 0 1 0").is(Due.ARGUMENT, "order 0 0 0 1");
        many.is(Due.ARGUMENT, "order 0 8 1 1").is(Due.ARGUMENT, "order 4 0 1 1");
        many.is(Due.STATE, "pass 1").is(Due.STATE, "pass 100").is(Due.ARGUMENT, "pass 0").is(Due.ARGUMENT, "pass 101");
        many.is(Due.STATE, "takeUp 59 1").is(Due.ARGUMENT, "takeUp 59 0").is(Due.ARGUMENT, "takeUp 59 1001");
        many.is(Due.INDEX, "takeUp 60 1").is(Due.INDEX, "takeUp 60 0").is(Due.INDEX, "leftBy 60 0");
        many.is(Due.INDEX, "leftBy 60 8").is(Due.ARGUMENT, "leftBy 59 8").is(0, "leftBy 59 7");
    }
}
