import java.util.ArrayList;
import java.util.List;

/** Calls that throw: the exception that is due, the one listed first if several are, and nothing is changed. */
public final class ThrowsTest {
    private static final String[] LOOKS = {
        "hour", "orders", "moves", "length 0", "length 1", "length 7", "fault 0", "expressions 1", "sign 0 3",
        "stock -1 0", "stock 0 0", "stock 1 0", "stockByMoves -1 0", "stockByMoves 1 0", "fuel 0", "fuel 1", "fuel 2",
        "rations 0", "rations 1", "debt 1 0", "debt 1 2", "state 0", "why 0", "done 0", "value 0", "used 0", "hourOf 0",
        "leftBy 0 0", "state 1", "why 1", "done 1", "used 1", "state 2", "state 3", "movedAmount 0", "movedBy 0",
        "setTariff 3", "setCredit 0 1 3", "setCredit 2 1 3", "setBuying 1 1", "setBuying 0 1", "pass 1", "state 2",
    };

    public static void main(String[] args) {
        thrown(Due.ARGUMENT, "type -1 97", "type 8 97", "type 0 33", "type 7 44", "type 7 0", "type 8 0", "type 0 96");
        thrown(Due.ARGUMENT, "erase -1 1", "erase 8 1", "erase 0 0", "erase 0 -1", "length -1", "length 8");
        thrown(Due.ARGUMENT, "sign 8 0", "sign -1 500", "fault 8", "fault -1", "expressions 8", "expressions -1");
        thrown(Due.STATE, "type 7 97", "type 7 32", "expressions 0");
        thrown(Due.INDEX, "sign 0 -1", "sign 0 5", "sign 7 120", "sign 2 0");
        thrown(Due.ARGUMENT, "supply -1 1", "supply 8 1", "supply 0 0", "supply 0 1001", "supply 0 -5");
        thrown(Due.ARGUMENT, "giveRations -1 1", "giveRations 4 1", "giveRations 0 0", "giveRations 0 1001");
        thrown(Due.ARGUMENT, "setTariff -1", "setTariff 101", "setBuying -1 0", "setBuying 4 0");
        thrown(Due.ARGUMENT, "buy -1 1", "buy 4 1", "buy 0 0", "buy 0 -1", "buy 3 0");
        thrown(Due.STATE, "buy 0 3", "buy 3 1");
        thrown(Due.ARGUMENT, "setCredit -1 1 5", "setCredit 0 4 5", "setCredit 1 1 5", "setCredit 0 1 -1");
        thrown(Due.ARGUMENT, "setCredit 0 1 1001", "setCredit 4 4 5");
        thrown(Due.ARGUMENT, "payBack -1 0 1", "payBack 4 0 1", "payBack 1 -1 1", "payBack 1 4 1", "payBack 1 0 0");
        thrown(Due.STATE, "payBack 1 0 3", "payBack 1 0 2", "payBack 0 1 1", "payBack 1 1 1", "payBack 1 2 1");
        thrown(Due.ARGUMENT, "stock -2 0", "stock 4 0", "stock 0 -1", "stock 0 8", "stockByMoves -2 0");
        thrown(Due.ARGUMENT, "stockByMoves 4 0", "stockByMoves 0 -1", "stockByMoves 0 8", "fuel -1", "fuel 4");
        thrown(Due.ARGUMENT, "rations -1", "rations 4", "debt -1 0", "debt 4 0", "debt 0 -1", "debt 0 4");
        thrown(Due.ARGUMENT, "order -1 0 1 1", "order 4 0 1 1", "order 0 -1 1 1", "order 0 8 1 1", "order 0 0 0 1");
        thrown(Due.ARGUMENT, "order 0 0 101 1", "order 0 0 1 0", "order 0 0 1 1001", "pass 0", "pass 101", "pass -1");
        thrown(Due.STATE, "pass 100", "pass 51", "takeUp 0 5", "takeUp 2 5");
        thrown(Due.INDEX, "takeUp -1 0", "takeUp 3 5", "takeUp 3 0", "state 3", "why 3", "done 3", "value 3", "used 3");
        thrown(Due.INDEX, "state -1", "hourOf 3", "hourOf -1", "leftBy 3 0", "leftBy 3 8", "leftBy -1 -1");
        thrown(Due.ARGUMENT, "takeUp 1 0", "takeUp 1 1001", "takeUp 0 0", "leftBy 0 -1", "leftBy 0 8");
        thrown(Due.INDEX, "movedFrom 1", "movedTo 1", "movedGood 1", "movedAmount 1", "movedBy 1", "movedFrom -1");
        Due.end();
    }

    private static void thrown(String due, String... calls) {
        List<String> untouched = looks(prepared());
        for (String call : calls) {
            Calls camp = prepared();
            String answer = camp.answer(call);
            if (!answer.equals(due)) {
                Due.tell(call + " answered " + answer + ", due is " + due);
            }
            List<String> then = looks(camp);
            if (!then.equals(untouched)) {
                Due.tell(call + " changed " + untouched + " to " + then);
            }
        }
    }

    /** In the hour 950 an order is DONE, one FAULTY and one WAITING; company 1 owes 2 to 0 and has 1 fuel. */
    private static Calls prepared() {
        Calls camp = new Calls(new RationLisp());
        typed(camp, 0, "(x) -");
        typed(camp, 1, "(take a 3)");
        typed(camp, 7, "ab 12 ".repeat(20));
        for (String call : new String[] {
            "supply 0 9", "giveRations 0 3", "giveRations 1 9", "buy 0 1", "setCredit 0 1 2", "order 1 1 1 9", "pass 1",
            "setTariff 1", "buy 1 1", "order 0 0 1 9",
        }) {
            camp.answer(call);
        }
        for (int i = 0; i < 9; i++) {
            camp.answer("pass 100");
        }
        camp.answer("pass 49");
        camp.answer("order 1 1 1 9");
        return camp;
    }

    private static void typed(Calls camp, int script, String text) {
        for (int i = 0; i < text.length(); i++) {
            camp.answer("type " + script + " " + (int) text.charAt(i));
        }
    }

    private static List<String> looks(Calls camp) {
        List<String> answers = new ArrayList<>();
        for (String look : LOOKS) {
            answers.add(look + " = " + camp.answer(look));
        }
        return answers;
    }
}
