import java.util.ArrayDeque;
import java.util.ArrayList;
import java.util.Deque;
import java.util.HashMap;
import java.util.List;
import java.util.Map;
import java.util.regex.Pattern;

/**
 * The document once more, in another way than the program: texts are cut up by patterns, what goes wrong is
 * thrown, stocks are always told by moves. Arguments are taken as they come, for those that are out of range
 * are tested elsewhere; only what depends on the state is looked at here.
 */
final class Model {
    private static final Pattern BEGUN_WELL = Pattern.compile(
        "[ ()]*(?:(?:-?[0-9]{1,6}|[a-z]{1,6})(?![0-9a-z-])[ ()]*)*(?:-?[0-9]{0,6}|[a-z]{1,6})?");
    private static final String WORDS = " add sub mul min max div mod less same not and or if while do let set def"
        + " take put give at call buy fuel hour ";

    private static final class Node {
        final String word;
        final List<Node> parts = new ArrayList<>();

        Node(String word) {
            this.word = word;
        }

        boolean isList() {
            return word == null;
        }

        boolean isName() {
            return word != null && Character.isLetter(word.charAt(0));
        }
    }

    private static final class Trouble extends RuntimeException {
        private static final long serialVersionUID = 1;
        final int why;

        Trouble(int why) {
            super(null, null, false, false);
            this.why = why;
        }
    }

    private static final class Order {
        int company, script, hour, budget, state, why, done, value, used;
    }

    private static final class Move {
        int from, to, good, amount, by;
    }

    private static final class Binding {
        final String name;
        int value;

        Binding(String name, int value) {
            this.name = name;
            this.value = value;
        }
    }

    private final StringBuilder[] texts = new StringBuilder[8];
    private final int[] supplied = new int[8];
    private final int[] rations = new int[4];
    private final int[] fuel = new int[4];
    private final boolean[] buying = new boolean[4];
    private final Map<String, Integer> limits = new HashMap<>();
    private final Map<String, Integer> debts = new HashMap<>();
    private final List<Order> orders = new ArrayList<>();
    private final List<Move> moves = new ArrayList<>();
    private int tariff = 10;
    private int hour = 0;

    private Order run;
    private int usedInRun;
    private int budget;
    private Map<String, Node> functions;
    private Deque<Binding> bindings;

    Model() {
        for (int i = 0; i < 8; i++) {
            texts[i] = new StringBuilder();
        }
    }

    private static void demand(boolean right) {
        if (!right) {
            throw new IllegalStateException();
        }
    }

    private Order orderAt(int order) {
        if (order < 0 || order >= orders.size()) {
            throw new IndexOutOfBoundsException();
        }
        return orders.get(order);
    }

    private Move moveAt(int move) {
        if (move < 0 || move >= moves.size()) {
            throw new IndexOutOfBoundsException();
        }
        return moves.get(move);
    }

    int type(int script, int sign) {
        demand(texts[script].length() < 120);
        return texts[script].append((char) sign).length();
    }

    int erase(int script, int many) {
        texts[script].setLength(Math.max(0, texts[script].length() - many));
        return texts[script].length();
    }

    int length(int script) {
        return texts[script].length();
    }

    int sign(int script, int index) {
        if (index < 0 || index >= texts[script].length()) {
            throw new IndexOutOfBoundsException();
        }
        return texts[script].charAt(index);
    }

    private static boolean canBegin(String text) {
        int open = 0;
        for (char sign : text.toCharArray()) {
            open += sign == '(' ? 1 : sign == ')' ? -1 : 0;
            if (open < 0 || open > 20) {
                return false;
            }
        }
        return BEGUN_WELL.matcher(text).matches();
    }

    int fault(int script) {
        String text = texts[script].toString();
        for (int i = 0; i < text.length(); i++) {
            if (!canBegin(text.substring(0, i + 1))) {
                return i;
            }
        }
        boolean isOpen = text.replace("(", "").length() != text.replace(")", "").length();
        return isOpen || text.endsWith("-") ? text.length() : -1;
    }

    private List<Node> read(int script) {
        Deque<Node> open = new ArrayDeque<>();
        open.push(new Node(null));
        for (String part : texts[script].toString().replace("(", " ( ").replace(")", " ) ").trim().split(" +")) {
            if (part.equals("(")) {
                open.push(new Node(null));
            } else if (part.equals(")")) {
                Node list = open.pop();
                open.element().parts.add(list);
            } else if (!part.isEmpty()) {
                open.element().parts.add(new Node(part));
            }
        }
        return open.pop().parts;
    }

    int expressions(int script) {
        demand(fault(script) == -1);
        return read(script).size();
    }

    int supply(int good, int many) {
        supplied[good] += many;
        return stock(-1, good);
    }

    int giveRations(int company, int many) {
        return rations[company] += many;
    }

    int setTariff(int now) {
        int before = tariff;
        tariff = now;
        return before;
    }

    private int gets(Map<String, Integer> all, int one, int other) {
        return all.getOrDefault(one + " " + other, 0);
    }

    int buy(int company, int many) {
        demand(rations[company] >= many);
        rations[company] -= many;
        int bought = many * tariff;
        int half = bought / 2;
        int rest = bought;
        for (int lender = 0; lender < 4; lender++) {
            int debt = debt(company, lender);
            while (debt > 0 && half > 0) {
                debt--;
                half--;
                rest--;
                fuel[lender]++;
            }
            debts.put(company + " " + lender, debt);
        }
        fuel[company] += rest;
        return bought;
    }

    boolean setBuying(int company, boolean buys) {
        boolean before = buying[company];
        buying[company] = buys;
        return before;
    }

    int setCredit(int lender, int borrower, int limit) {
        Integer before = limits.put(lender + " " + borrower, limit);
        return before == null ? 0 : before;
    }

    int payBack(int borrower, int lender, int many) {
        demand(debt(borrower, lender) >= many && fuel[borrower] >= many);
        fuel[borrower] -= many;
        fuel[lender] += many;
        debts.merge(borrower + " " + lender, -many, Integer::sum);
        return debt(borrower, lender);
    }

    int stock(int owner, int good) {
        int stock = owner == -1 ? supplied[good] : 0;
        for (Move move : moves) {
            if (move.good == good && move.to == owner) {
                stock += move.amount;
            }
            if (move.good == good && move.from == owner) {
                stock -= move.amount;
            }
        }
        return stock;
    }

    int stockByMoves(int owner, int good) {
        return stock(owner, good);
    }

    int fuel(int company) {
        return fuel[company];
    }

    int rations(int company) {
        return rations[company];
    }

    int debt(int borrower, int lender) {
        return gets(debts, borrower, lender);
    }

    int order(int company, int script, int hours, int paid) {
        demand(orders.size() < 60);
        Order order = new Order();
        order.company = company;
        order.script = script;
        order.hour = hour + hours;
        order.budget = paid;
        orders.add(order);
        return orders.size() - 1;
    }

    int pass(int hours) {
        demand(hour + hours <= 1000);
        int many = 0;
        for (int i = 0; i < hours; i++) {
            hour++;
            for (Order order : new ArrayList<>(orders)) {
                if (order.state == 0 && order.hour == hour) {
                    run(order, order.budget);
                    many++;
                }
            }
        }
        return many;
    }

    int hour() {
        return hour;
    }

    int takeUp(int number, int paid) {
        Order order = orderAt(number);
        demand(order.state == 2 || order.state == 3);
        run(order, paid);
        return order.state;
    }

    int orders() {
        return orders.size();
    }

    int state(int order) {
        return orderAt(order).state;
    }

    int why(int order) {
        return orderAt(order).why;
    }

    int done(int order) {
        return orderAt(order).done;
    }

    int value(int order) {
        return orderAt(order).value;
    }

    int used(int order) {
        return orderAt(order).used;
    }

    int hourOf(int order) {
        return orderAt(order).hour;
    }

    int leftBy(int order, int good) {
        orderAt(order);
        int left = 0;
        for (Move move : moves) {
            if (move.by == order && move.good == good) {
                left += move.from == -1 ? move.amount : move.to == -1 ? -move.amount : 0;
            }
        }
        return left;
    }

    int moves() {
        return moves.size();
    }

    int movedFrom(int move) {
        return moveAt(move).from;
    }

    int movedTo(int move) {
        return moveAt(move).to;
    }

    int movedGood(int move) {
        return moveAt(move).good;
    }

    int movedAmount(int move) {
        return moveAt(move).amount;
    }

    int movedBy(int move) {
        return moveAt(move).by;
    }

    private void run(Order order, int paid) {
        run = order;
        budget = paid;
        usedInRun = 0;
        functions = new HashMap<>();
        order.why = 0;
        if (fault(order.script) != -1) {
            order.state = 3;
            order.why = 1;
            return;
        }
        order.state = 1;
        List<Node> row = read(order.script);
        while (order.done < row.size()) {
            int movesAhead = moves.size();
            int ordersAhead = orders.size();
            bindings = new ArrayDeque<>();
            try {
                order.value = value(row.get(order.done), 0);
                order.done++;
            } catch (Trouble trouble) {
                order.state = trouble.why == 0 ? 2 : 3;
                order.why = trouble.why;
                moves.subList(movesAhead, moves.size()).clear();
                for (Order made : orders.subList(ordersAhead, orders.size())) {
                    made.state = 4;
                }
                return;
            }
        }
    }

    private void takeFuel() {
        int company = run.company;
        if (usedInRun == budget) {
            throw new Trouble(0);
        }
        if (fuel[company] == 0 && buying[company] && rations[company] > 0) {
            buy(company, 1);
        }
        int giver = -1;
        if (fuel[company] > 0) {
            giver = company;
        }
        for (int lender = 0; lender < 4 && giver == -1; lender++) {
            if (lender != company && fuel[lender] > 0 && gets(limits, lender, company) > debt(company, lender)) {
                giver = lender;
                debts.merge(company + " " + lender, 1, Integer::sum);
            }
        }
        if (giver == -1) {
            throw new Trouble(0);
        }
        fuel[giver]--;
        usedInRun++;
        run.used++;
    }

    private int value(Node node, int others) {
        takeFuel();
        if (others == 30) {
            throw new Trouble(2);
        }
        if (node.isList()) {
            return valueOfList(node, others + 1);
        }
        if (!node.isName()) {
            return Integer.parseInt(node.word);
        }
        Binding binding = latest(node.word);
        if (binding != null) {
            return binding.value;
        }
        if (isGood(node)) {
            return stock(run.company, goodOf(node));
        }
        throw new Trouble(3);
    }

    private Binding latest(String name) {
        for (Binding binding : bindings) {
            if (binding.name.equals(name)) {
                return binding;
            }
        }
        return null;
    }

    private static boolean isGood(Node node) {
        return node.isName() && node.word.matches("[a-h]");
    }

    private static int goodOf(Node node) {
        return node.word.charAt(0) - 'a';
    }

    private static void form(boolean right) {
        if (!right) {
            throw new Trouble(4);
        }
    }

    private static void refuse(boolean wrong) {
        if (wrong) {
            throw new Trouble(6);
        }
    }

    private int valueOfList(Node list, int others) {
        List<Node> parts = list.parts;
        form(!parts.isEmpty() && parts.get(0).isName());
        String word = parts.get(0).word;
        int behind = parts.size() - 1;
        List<Integer> all = new ArrayList<>();
        if (!WORDS.contains(" " + word + " ")) {
            return valueOfFunction(word, parts, others);
        }
        switch (word) {
            case "fuel":
                form(behind == 0);
                return fuel[run.company];
            case "hour":
                form(behind == 0);
                return hour;
            case "not":
            case "call":
            case "buy":
                form(behind == 1);
                return single(word, value(parts.get(1), others), others);
            case "and":
            case "or":
                form(behind == 2);
                int p = value(parts.get(1), others);
                return word.equals("and") == (p == 0) ? p : value(parts.get(2), others);
            case "if":
                form(behind == 3);
                return value(parts.get(1), others) != 0 ? value(parts.get(2), others) : value(parts.get(3), others);
            case "while":
                form(behind >= 2);
                int rounds = 0;
                while (value(parts.get(1), others) != 0) {
                    row(parts.subList(2, parts.size()), others);
                    rounds++;
                }
                return rounds;
            case "do":
                form(behind >= 1);
                return row(parts.subList(1, parts.size()), others);
            case "let":
                form(behind >= 3 && parts.get(1).isName());
                bindings.push(new Binding(parts.get(1).word, value(parts.get(2), others)));
                int last = row(parts.subList(3, parts.size()), others);
                bindings.pop();
                return last;
            case "set":
                form(behind == 2 && parts.get(1).isName());
                int set = value(parts.get(2), others);
                Binding binding = latest(parts.get(1).word);
                if (binding == null) {
                    throw new Trouble(3);
                }
                binding.value = set;
                return set;
            case "def":
                return define(list);
            case "take":
            case "put":
                form(behind == 2 && isGood(parts.get(1)));
                int many = value(parts.get(2), others);
                boolean takes = word.equals("take");
                return move(takes ? -1 : run.company, takes ? run.company : -1, goodOf(parts.get(1)), many);
            case "give":
                form(behind == 3 && isGood(parts.get(2)));
                int taker = value(parts.get(1), others);
                int given = value(parts.get(3), others);
                refuse(taker < 0 || taker > 3);
                return move(run.company, taker, goodOf(parts.get(2)), given);
            case "at":
                form(behind == 3);
                for (Node part : parts.subList(1, 4)) {
                    all.add(value(part, others));
                }
                refuse(all.get(0) < 1 || all.get(0) > 100 || all.get(1) < 0 || all.get(1) > 7);
                refuse(all.get(2) < 1 || all.get(2) > 1000);
                return orders.size() == 60 ? -1 : order(run.company, all.get(1), all.get(0), all.get(2));
            default:
                form(behind == 2);
                return pair(word, value(parts.get(1), others), value(parts.get(2), others));
        }
    }

    private int row(List<Node> row, int others) {
        int last = 0;
        for (Node node : row) {
            last = value(node, others);
        }
        return last;
    }

    private int single(String word, int p, int others) {
        if (word.equals("not")) {
            return p == 0 ? 1 : 0;
        }
        if (word.equals("buy")) {
            refuse(p < 0);
            return buy(run.company, Math.min(p, rations[run.company]));
        }
        refuse(p < 0 || p > 7 || fault(p) != -1);
        Deque<Binding> outer = bindings;
        bindings = new ArrayDeque<>();
        int last = row(read(p), others);
        bindings = outer;
        return last;
    }

    private int pair(String word, int p, int q) {
        switch (word) {
            case "add":
                return p + q;
            case "sub":
                return p - q;
            case "mul":
                return p * q;
            case "min":
                return p < q ? p : q;
            case "max":
                return p > q ? p : q;
            case "less":
                return p < q ? 1 : 0;
            case "same":
                return p == q ? 1 : 0;
            default:
                if (q == 0) {
                    throw new Trouble(5);
                }
                long quotient = (long) p / q;
                return (int) (word.equals("div") ? quotient : p - quotient * q);
        }
    }

    private int define(Node list) {
        form(list.parts.size() == 4);
        Node name = list.parts.get(1);
        Node inner = list.parts.get(2);
        form(name.isName() && !isGood(name) && !WORDS.contains(" " + name.word + " "));
        form(inner.isList() && inner.parts.size() <= 3);
        List<String> names = new ArrayList<>();
        for (Node part : inner.parts) {
            form(part.isName() && !names.contains(part.word));
            names.add(part.word);
        }
        if (functions.size() == 8 && !functions.containsKey(name.word)) {
            throw new Trouble(2);
        }
        functions.put(name.word, list);
        return 0;
    }

    private int valueOfFunction(String word, List<Node> parts, int others) {
        Node definition = functions.get(word);
        if (definition == null) {
            throw new Trouble(3);
        }
        List<Node> names = definition.parts.get(2).parts;
        form(names.size() == parts.size() - 1);
        Deque<Binding> inner = new ArrayDeque<>();
        for (int i = 0; i < names.size(); i++) {
            inner.push(new Binding(names.get(i).word, value(parts.get(i + 1), others)));
        }
        Deque<Binding> outer = bindings;
        bindings = inner;
        int result = value(definition.parts.get(3), others);
        bindings = outer;
        return result;
    }

    private int move(int from, int to, int good, int wanted) {
        refuse(wanted < 0);
        int amount = Math.min(wanted, stock(from, good));
        if (amount == 0 || from == to) {
            return 0;
        }
        if (moves.size() == 3000) {
            throw new Trouble(2);
        }
        Move move = new Move();
        move.from = from;
        move.to = to;
        move.good = good;
        move.amount = amount;
        move.by = orders.indexOf(run);
        moves.add(move);
        return amount;
    }
}
