import java.util.ArrayList;
import java.util.HashMap;
import java.util.List;
import java.util.Map;

/**
 * Makes many runs of calls, always the same ones, on the program and on the model, and compares the answers. Calls
 * with wrong arguments are made on the program alone: that it answers like the model then shows that they change
 * nothing.
 */
public final class ModelTest {
    private static final int RUNS = 2000, MOST_CALLS = 512, MOST_TYPED = 330;
    private static final String[] PAIRS = {
        "add", "sub", "mul", "min", "max", "div", "mod", "less", "same", "and", "or",
    };
    private static final String[] NAMES = {"x", "y", "i", "n", "a", "b", "c", "h", "ff", "add"};
    private static final String[] FUNCTIONS = {"ff", "gg", "i", "j", "k", "l", "m", "n", "o", "p"};
    private static final String[] LOOPS = {
        "(def ff(n)(if n(ff(sub n 1))9))(ff #)", "(let n #(while n(take a 1)(set n(sub n 1))))",
        "(let n #(while(less 1 n)(give(mod n 5)a 1)(set n(div n 2))))", "(call 0)", "(call 1)", "(call(mod # 3))",
        "(def i()1)(def j()2)(def k()3)(def l()4)(def m()5)(def n()6)(def o()7)", "(do(take a #)(put a 2)c)",
        "(let x #(set x(add x 1))x)", "(at # 1 50)", "(at 1 # #)",
        "(while(less b #)(take b 3)(buy 1))", "(do(at 1 0 9)(buy #)(div # 0))",
        "(def ff(x y z)(add x(mul y z)))(ff # # #)", "(def ff(x)(add x 1))(ff(do(def ff(x)9)(ff #)))",
        "(def o()8)(def p()9)(def o(n)n)(o(p))", "(def o(n n)1)", "(def gg()(gg))(gg)", "(let a #(call 2)a)",
        "(let x #(def gg(y)(add y x)))(gg 1)", "(give(add 2 #)a(div # b))", "(let n 3(while(set n(sub n 1))(call 1)))",
    };

    /** Calls with wrong arguments, and the exceptions that are due. */
    private final Map<String, String> wrongCalls = new HashMap<>();
    private long seed;

    private ModelTest(long seed) {
        this.seed = seed;
    }

    public static void main(String[] args) {
        int runs = args.length > 0 ? Integer.parseInt(args[0]) : RUNS;
        int[] ends = new int[5];
        for (int i = 1; i <= runs; i++) {
            new ModelTest(i * 7919L).compare("run " + i, ends);
        }
        for (int state = 1; state < ends.length; state++) {
            if (ends[state] < runs / 100) {
                Due.tell("only " + ends[state] + " orders ended in the state " + state);
            }
        }
        Due.end();
    }

    private void compare(String name, int[] ends) {
        Calls program = new Calls(new RationLisp());
        Calls model = new Calls(new Model());
        StringBuilder told = new StringBuilder(name);
        for (String call : calls()) {
            String answer = program.answer(call);
            String due = wrongCalls.containsKey(call) ? wrongCalls.get(call) : model.answer(call);
            told.append(told(call, answer));
            if (!answer.equals(due)) {
                Due.tell(told + ", due is " + due);
                return;
            }
        }
        for (int i = 0; program.count() < MOST_CALLS; i++) {
            String answer = program.answer("state " + i);
            if (!answer.startsWith("throws.")) {
                ends[Integer.parseInt(answer)]++;
            }
        }
    }

    /** Tells a typed sign as it is, and any other call with its answer. */
    private static String told(String call, String answer) {
        if (!call.startsWith("type") || answer.startsWith("throws.")) {
            return "\n  " + call + " = " + answer;
        }
        String[] words = call.split(" ");
        return (answer.equals("1") ? "\n  type " + words[1] + " " : "") + (char) Integer.parseInt(words[2]);
    }

    private int upTo(int most) {
        seed = seed * 6364136223846793005L + 1442695040888963407L;
        return (int) ((seed >>> 33) % (most + 1));
    }

    private String oneOf(String... all) {
        return all[upTo(all.length - 1)];
    }

    private List<String> calls() {
        List<String> calls = new ArrayList<>();
        for (int company = 0; company < 4; company++) {
            calls.add("supply " + upTo(2) + " " + (30 + upTo(60)));
            calls.add("giveRations " + company + " " + (30 + upTo(upTo(1) * 200)));
            calls.add("buy " + company + " " + (1 + upTo(29)));
            calls.add(settingCall());
        }
        int typed = 0;
        for (int script = 0; script < 4 && typed < MOST_TYPED; script++) {
            String text = text(Math.min(120, MOST_TYPED - typed));
            typed += text.length();
            addTyped(calls, script, text);
        }
        while (calls.size() < MOST_CALLS - 15) {
            calls.add(upTo(2) == 0 ? settingCall() : upTo(2) == 0 ? lookingCall() : orderCall());
            if (upTo(9) == 0) {
                calls.add(wrongCall());
            }
            if (upTo(14) == 0 && calls.size() < MOST_CALLS - 40) {
                String wrong = upTo(5) == 0 ? ")" : "";
                addTyped(calls, upTo(3), oneOf(" 7", " x", "(take b 2)", "(call 1)", "(put a 1)", wrong));
            }
        }
        return calls;
    }

    private static void addTyped(List<String> calls, int script, String text) {
        for (int i = 0; i < text.length(); i++) {
            calls.add("type " + script + " " + (int) text.charAt(i));
        }
    }

    private String settingCall() {
        switch (upTo(7)) {
            case 0:
                return "supply " + upTo(2) + " " + (1 + upTo(40));
            case 1:
                return "giveRations " + upTo(3) + " " + (1 + upTo(9));
            case 2:
                return "setTariff " + upTo(upTo(3) == 0 ? 3 : 100);
            case 3:
                return "buy " + upTo(3) + " " + (1 + upTo(5));
            case 4:
                return "setBuying " + upTo(3) + " " + upTo(1);
            case 5:
                int lender = upTo(3);
                return "setCredit " + lender + " " + (lender + 1 + upTo(2)) % 4 + " " + upTo(30);
            case 6:
                return "payBack " + upTo(3) + " " + upTo(3) + " " + (1 + upTo(4));
            default:
                return upTo(9) == 0 ? "erase " + upTo(3) + " " + (1 + upTo(6)) : "giveRations " + upTo(3) + " 20";
        }
    }

    private String orderCall() {
        switch (upTo(4)) {
            case 0:
            case 1:
                int budget = 1 + upTo(upTo(1) == 0 ? 999 : 40);
                return "order " + upTo(3) + " " + upTo(3) + " " + (1 + upTo(2)) + " " + budget;
            case 2:
                return "takeUp " + upTo(9) + " " + (1 + upTo(upTo(1) == 0 ? 999 : 20));
            default:
                return "pass " + (1 + upTo(upTo(9) == 0 ? 99 : 1));
        }
    }

    private String lookingCall() {
        String[] calls = {
            "sign 4 4", "length 3", "fault 3", "expressions 3", "stock 3 3", "stockByMoves 3 3", "fuel 3", "rations 3",
            "debt 3 3", "hour", "orders", "state 20", "why 20", "done 20", "value 20", "used 20", "hourOf 20",
            "leftBy 20 3", "moves", "movedFrom 20", "movedTo 20", "movedGood 20", "movedAmount 20", "movedBy 20",
        };
        String[] words = oneOf(calls).split(" ");
        StringBuilder call = new StringBuilder(words[0]);
        for (int i = 1; i < words.length; i++) {
            boolean mayBeStore = i == 1 && words[0].startsWith("stock");
            call.append(' ').append(mayBeStore ? upTo(4) - 1 : upTo(Integer.parseInt(words[i])));
        }
        return call.toString();
    }

    /** Makes a call that has one wrong argument, or more. */
    private String wrongCall() {
        String told = oneOf(Ranges.CALLS);
        String[] kinds = told.split(" ");
        boolean[] areWrong = new boolean[kinds.length];
        areWrong[1 + upTo(kinds.length - 2)] = true;
        StringBuilder call = new StringBuilder(kinds[0]);
        for (int i = 1; i < kinds.length; i++) {
            // There may be no order yet, so that none of its numbers would be right.
            boolean isMeant = areWrong[i] || kinds[i].equals("number") || upTo(3) == 0;
            areWrong[i] = isMeant && Ranges.wrong(kinds[i]).length > 0;
            int[] numbers = areWrong[i] ? Ranges.wrong(kinds[i]) : Ranges.right(kinds[i]);
            call.append(' ').append(numbers[upTo(numbers.length - 1)]);
        }
        String due = Ranges.due(told, areWrong, "");
        if (due.isEmpty()) {
            return "hour";
        }
        wrongCalls.put(call.toString(), due);
        return call.toString();
    }

    private String text(int most) {
        StringBuilder text = new StringBuilder();
        for (int i = 0; i < 9; i++) {
            String next = upTo(2) == 0 ? loop() : expression(1 + upTo(2), new ArrayList<>());
            if (text.length() + next.length() < most) {
                text.append(upTo(1) == 0 || next.charAt(0) != '(' ? " " : "").append(next);
            }
        }
        if (upTo(29) == 0 && text.length() > 0) {
            text.setCharAt(upTo(text.length() - 1), oneOf("(", ")", "-", "5", "a", " ").charAt(0));
        }
        return text.toString();
    }

    private String loop() {
        StringBuilder loop = new StringBuilder();
        for (char sign : oneOf(LOOPS).toCharArray()) {
            loop.append(sign == '#' ? String.valueOf(upTo(15)) : String.valueOf(sign));
        }
        return loop.toString();
    }

    private String number() {
        return upTo(9) == 0 ? oneOf("-999999", "999999", "-0", "65536", "32768") : String.valueOf(upTo(12) - 2);
    }

    /** Makes a name that means something, mostly: one of those bound, or a letter of a good. */
    private String name(List<String> bound) {
        if (upTo(39) == 0) {
            return oneOf(NAMES);
        }
        return bound.isEmpty() || upTo(2) == 0 ? oneOf("a", "b", "c") : bound.get(upTo(bound.size() - 1));
    }

    private String expression(int depth, List<String> bound) {
        if (depth == 0 || upTo(5) == 0) {
            return upTo(1) == 0 ? name(bound) : number();
        }
        if (upTo(59) == 0) {
            return oneOf("()", "(5)", "(add 1)", "(let x 1)", "(take x 1)", "(set 5 5)", "(fuel 1)", "((add) 1 2)");
        }
        String p = " " + expression(depth - 1, bound);
        String q = " " + expression(depth - 1, bound);
        String good = " " + oneOf("a", "a", "b", "c");
        switch (upTo(17)) {
            case 0:
            case 1:
                return let(depth, p, bound);
            case 2:
                return bound.isEmpty() && upTo(4) > 0 ? "(max" + p + q + ")" : "(set " + name(bound) + p + ")";
            case 3:
                return "(if" + p + q + " " + expression(depth - 1, bound) + ")";
            case 4:
                return "(do" + p + q + ")";
            case 5:
                return upTo(4) == 0 ? "(while" + p + q + ")" : "(while(less a 5)(take a 1))";
            case 6:
                return function(depth);
            case 7:
                return "(" + oneOf(FUNCTIONS) + oneOf("", p, p, p + q) + ")";
            case 8:
            case 9:
                return "(take" + good + p + ")";
            case 10:
                return "(put" + good + p + ")";
            case 11:
                return "(give " + upTo(upTo(5) == 0 ? 4 : 3) + good + p + ")";
            case 12:
                return "(at " + (1 + upTo(3)) + " " + upTo(3) + " " + (1 + upTo(30)) + ")";
            case 13:
                return "(call " + upTo(upTo(9) == 0 ? 4 : 3) + ")";
            case 14:
                return oneOf("(fuel)", "(hour)", "(buy" + p + ")", "(not" + p + ")");
            default:
                return "(" + oneOf(PAIRS) + p + q + ")";
        }
    }

    private String let(int depth, String p, List<String> bound) {
        String name = oneOf(NAMES);
        List<String> inside = new ArrayList<>(bound);
        inside.add(name);
        String set = upTo(2) == 0 ? "(set " + name + " " + expression(depth - 1, inside) + ")" : "";
        return "(let " + name + p + set + " " + expression(depth - 1, inside) + ")";
    }

    private String function(int depth) {
        String names = oneOf("", "x", "x", "x y", "x y z", upTo(9) == 0 ? "x x" : "a x");
        List<String> inside = new ArrayList<>();
        for (String name : names.split(" ")) {
            if (!name.isEmpty()) {
                inside.add(name);
            }
        }
        String name = oneOf(FUNCTIONS);
        StringBuilder call = new StringBuilder("(" + name);
        for (int i = 0; i < inside.size(); i++) {
            call.append(' ').append(number());
        }
        String definition = "(def " + name + "(" + names + ")" + expression(depth - 1, inside) + ")";
        return upTo(2) == 0 ? definition : "(do" + definition + call + "))";
    }
}
