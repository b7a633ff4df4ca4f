/**
 * A small language by which companies in barracks move goods: scripts that are typed sign by sign and
 * read as lists, run with fuel by orders at hours, and a book of all moves.
 */
public final class RationLisp {
    public static final int NONE = -1;
    public static final int WAITING = 0, DONE = 1, DRY = 2, FAULTY = 3, UNDONE = 4;
    public static final int BY_TEXT = 1, TOO_DEEP = 2, UNKNOWN = 3, MALFORMED = 4, BY_NOTHING = 5, REFUSED = 6;

    private static final int COMPANIES = 4, SCRIPTS = 8, GOODS = 8;
    private static final int MOST_SIGNS = 120;
    private static final int MOST_SUPPLIED = 1000, MOST_RATIONS = 1000, MOST_TARIFF = 100, MOST_CREDIT = 1000;
    private static final int MOST_AHEAD = 100, MOST_BUDGET = 1000, LAST_HOUR = 1000;

    private final Tree tree;
    private final Texts texts;
    private final Purses purses;
    private final Book book;
    private final Orders orders;
    private final Run run;

    /** Makes empty scripts and stocks, and no orders; the hour is 0. */
    public RationLisp() {
        tree = new Tree();
        texts = new Texts(tree);
        purses = new Purses();
        book = new Book();
        orders = new Orders();
        run = new Run(tree, texts, purses, book, orders);
    }

    // ---- scripts

    /** Types a sign behind the others of a script; returns the length then. */
    public int type(int script, int sign) throws IllegalArgumentException, IllegalStateException {
        demandScript(script);
        demand(Reader.isSign(sign));
        demandState(texts.lengthOf(script) < MOST_SIGNS);
        return texts.append(script, sign);
    }

    /** Takes the last signs of a script away; returns the length then. */
    public int erase(int script, int many) throws IllegalArgumentException {
        demandScript(script);
        demand(many >= 1);
        return texts.cut(script, many);
    }

    /** Returns the length of a script. */
    public int length(int script) throws IllegalArgumentException {
        demandScript(script);
        return texts.lengthOf(script);
    }

    /** Returns a sign of a script. */
    public int sign(int script, int index) throws IllegalArgumentException, IndexOutOfBoundsException {
        demandScript(script);
        demandIndex(index, texts.lengthOf(script));
        return texts.signAt(script, index);
    }

    /** Returns the fault of a script; NONE if there is none. */
    public int fault(int script) throws IllegalArgumentException {
        demandScript(script);
        texts.readChanged();
        return texts.faultOf(script);
    }

    /** Returns the number of expressions of a script, those inside others not counted. */
    public int expressions(int script) throws IllegalArgumentException, IllegalStateException {
        demandScript(script);
        texts.readChanged();
        demandState(texts.faultOf(script) == NONE);
        return tree.partsOf(Tree.rowOf(script));
    }

    // ---- stocks, fuel and debts

    /** Supplies the store with a good; returns the stock of the store then. */
    public int supply(int good, int many) throws IllegalArgumentException {
        demandGood(good);
        demand(isIn(many, 1, MOST_SUPPLIED));
        return book.receive(good, many);
    }

    /** Gives rations to a company; returns its rations then. */
    public int giveRations(int company, int many) throws IllegalArgumentException {
        demandCompany(company);
        demand(isIn(many, 1, MOST_RATIONS));
        return purses.addRations(company, many);
    }

    /** Sets the tariff; returns the one before. */
    public int setTariff(int fuel) throws IllegalArgumentException {
        demand(isIn(fuel, 0, MOST_TARIFF));
        return purses.changeTariff(fuel);
    }

    /** Lets a company buy fuel; returns how much the rations buy, debts included. */
    public int buy(int company, int rations) throws IllegalArgumentException, IllegalStateException {
        demandCompany(company);
        demand(rations >= 1);
        demandState(purses.rationsOf(company) >= rations);
        return purses.buyFuel(company, rations);
    }

    /** Lets a company buy by itself, or not; returns whether it did. */
    public boolean setBuying(int company, boolean buys) throws IllegalArgumentException {
        demandCompany(company);
        return purses.changeBuying(company, buys);
    }

    /** Sets the limit up to which a company lends fuel to another one; returns the limit before. */
    public int setCredit(int lender, int borrower, int limit) throws IllegalArgumentException {
        demandCompany(lender);
        demandCompany(borrower);
        demand(lender != borrower && isIn(limit, 0, MOST_CREDIT));
        return purses.changeCredit(lender, borrower, limit);
    }

    /** Pays a debt back; returns the debt that is left. */
    public int payBack(int borrower, int lender, int fuel) throws IllegalArgumentException, IllegalStateException {
        demandCompany(borrower);
        demandCompany(lender);
        demand(fuel >= 1);
        demandState(purses.debtOf(borrower, lender) >= fuel && purses.fuelOf(borrower) >= fuel);
        return purses.payFromFuel(borrower, lender, fuel);
    }

    /** Returns a stock of a company, or of the store. */
    public int stock(int owner, int good) throws IllegalArgumentException {
        demandOwner(owner);
        demandGood(good);
        return book.stockOf(owner, good);
    }

    /** Returns the same, from all that was supplied and all moves. */
    public int stockByMoves(int owner, int good) throws IllegalArgumentException {
        demandOwner(owner);
        demandGood(good);
        return book.stockTold(owner, good);
    }

    /** Returns the fuel of a company. */
    public int fuel(int company) throws IllegalArgumentException {
        demandCompany(company);
        return purses.fuelOf(company);
    }

    /** Returns the rations of a company. */
    public int rations(int company) throws IllegalArgumentException {
        demandCompany(company);
        return purses.rationsOf(company);
    }

    /** Returns a debt. */
    public int debt(int borrower, int lender) throws IllegalArgumentException {
        demandCompany(borrower);
        demandCompany(lender);
        return purses.debtOf(borrower, lender);
    }

    // ---- orders and hours

    /** Makes an order; returns its number. */
    public int order(int company, int script, int hours, int budget)
            throws IllegalArgumentException, IllegalStateException {
        demandCompany(company);
        demandScript(script);
        demand(isIn(hours, 1, MOST_AHEAD) && isIn(budget, 1, MOST_BUDGET));
        demandState(!orders.areFull());
        return orders.add(company, script, hours, budget);
    }

    /** Lets hours pass; returns how many orders are run in them. */
    public int pass(int hours) throws IllegalArgumentException, IllegalStateException {
        demand(isIn(hours, 1, MOST_AHEAD));
        demandState(orders.hour + hours <= LAST_HOUR);
        int many = 0;
        for (int i = 0; i < hours; i++) {
            orders.hour++;
            // Orders that scripts make now are for later hours.
            int made = orders.count;
            for (int number = 0; number < made; number++) {
                Order order = orders.rows[number];
                if (order.state == WAITING && order.hour == orders.hour) {
                    run.execute(number, order.budget);
                    many++;
                }
            }
        }
        return many;
    }

    /** Returns the hour. */
    public int hour() {
        return orders.hour;
    }

    /** Takes an order up again; returns its state then. */
    public int takeUp(int order, int budget)
            throws IndexOutOfBoundsException, IllegalArgumentException, IllegalStateException {
        Order again = existing(order);
        demand(isIn(budget, 1, MOST_BUDGET));
        demandState(again.state == DRY || again.state == FAULTY);
        run.execute(order, budget);
        return again.state;
    }

    /** Returns the number of orders. */
    public int orders() {
        return orders.count;
    }

    /** Returns the state of an order. */
    public int state(int order) throws IndexOutOfBoundsException {
        return existing(order).state;
    }

    /** Returns why an order is FAULTY; 0 if it is not. */
    public int why(int order) throws IndexOutOfBoundsException {
        return existing(order).why;
    }

    /** Returns how many expressions of an order are done. */
    public int done(int order) throws IndexOutOfBoundsException {
        return existing(order).done;
    }

    /** Returns the value of the expression of an order that was done last; 0 if none was. */
    public int value(int order) throws IndexOutOfBoundsException {
        return existing(order).value;
    }

    /** Returns how much fuel all runs of an order have used together. */
    public int used(int order) throws IndexOutOfBoundsException {
        return existing(order).used;
    }

    /** Returns the hour for which an order was made. */
    public int hourOf(int order) throws IndexOutOfBoundsException {
        return existing(order).hour;
    }

    /** Returns how much of a good has left the store by an order: what it took less what it put. */
    public int leftBy(int order, int good) throws IndexOutOfBoundsException, IllegalArgumentException {
        demandIndex(order, orders.count);
        demandGood(good);
        return book.leftStoreBy(order, good);
    }

    // ---- moves

    /** Returns the number of moves. */
    public int moves() {
        return book.count;
    }

    /** Returns of whom a move took: a company, or NONE for the store. */
    public int movedFrom(int move) throws IndexOutOfBoundsException {
        demandIndex(move, book.count);
        return book.from[move];
    }

    /** Returns to whom a move gave: a company, or NONE for the store. */
    public int movedTo(int move) throws IndexOutOfBoundsException {
        demandIndex(move, book.count);
        return book.to[move];
    }

    /** Returns which good a move moved. */
    public int movedGood(int move) throws IndexOutOfBoundsException {
        demandIndex(move, book.count);
        return book.good[move];
    }

    /** Returns how much a move moved. */
    public int movedAmount(int move) throws IndexOutOfBoundsException {
        demandIndex(move, book.count);
        return book.amount[move];
    }

    /** Returns by which order a move was made. */
    public int movedBy(int move) throws IndexOutOfBoundsException {
        demandIndex(move, book.count);
        return book.by[move];
    }

    // ---- what the calls share

    private Order existing(int order) {
        demandIndex(order, orders.count);
        return orders.rows[order];
    }

    private static boolean isIn(int number, int least, int most) {
        return number >= least && number <= most;
    }

    private static void demand(boolean right) {
        if (!right) {
            throw new IllegalArgumentException();
        }
    }

    private static void demandState(boolean right) {
        if (!right) {
            throw new IllegalStateException();
        }
    }

    private static void demandIndex(int index, int count) {
        if (index < 0 || index >= count) {
            throw new IndexOutOfBoundsException();
        }
    }

    private static void demandScript(int script) {
        demand(isIn(script, 0, SCRIPTS - 1));
    }

    private static void demandGood(int good) {
        demand(isIn(good, 0, GOODS - 1));
    }

    private static void demandCompany(int company) {
        demand(isIn(company, 0, COMPANIES - 1));
    }

    private static void demandOwner(int owner) {
        demand(owner == NONE || isIn(owner, 0, COMPANIES - 1));
    }

    /**
     * The expressions of all scripts, linked as lists. Each is known by the place of its first sign, so that
     * reading a text anew makes no objects. Behind the places of a script's signs comes one more, for the row
     * of all its expressions, which is kept like a list.
     */
    private static final class Tree {
        private static final int PLACES = MOST_SIGNS + 1;
        private static final int ALL_PLACES = SCRIPTS * PLACES;
        private static final int NOTHING = 0, NUMBER = 1, NAME = 2, LIST = 3;

        private final int[] kinds = new int[ALL_PLACES];
        private final int[] contents = new int[ALL_PLACES];
        private final int[] parts = new int[ALL_PLACES];
        private final int[] firsts = new int[ALL_PLACES];
        private final int[] lasts = new int[ALL_PLACES];
        private final int[] nexts = new int[ALL_PLACES];

        static int placeOf(int script, int index) {
            return script * PLACES + index;
        }

        static int rowOf(int script) {
            return placeOf(script, MOST_SIGNS);
        }

        /** Makes an expression that is part of no list yet. */
        void make(int place, int kind) {
            if (place >= 0 && place < ALL_PLACES) {
                kinds[place] = kind;
                contents[place] = 0;
                parts[place] = 0;
                firsts[place] = NONE;
                lasts[place] = NONE;
                nexts[place] = NONE;
            }
        }

        /** Makes an expression the last one of a list. */
        void hang(int list, int place) {
            if (list < 0 || list >= ALL_PLACES) {
                return;
            }
            int last = lasts[list];
            if (last >= 0 && last < ALL_PLACES) {
                nexts[last] = place;
            } else {
                firsts[list] = place;
            }
            lasts[list] = place;
            parts[list]++;
        }

        void setContent(int place, int content) {
            if (place >= 0 && place < ALL_PLACES) {
                contents[place] = content;
            }
        }

        /** Returns what an expression is; NOTHING if there is none. */
        int kindOf(int place) {
            return place >= 0 && place < ALL_PLACES ? kinds[place] : NOTHING;
        }

        /** Returns the value of a number, or the code of a name. */
        int contentOf(int place) {
            return place >= 0 && place < ALL_PLACES ? contents[place] : 0;
        }

        int partsOf(int list) {
            return list >= 0 && list < ALL_PLACES ? parts[list] : 0;
        }

        /** Returns the place of a part of a list; NONE if it has not so many. */
        int partOf(int list, int index) {
            if (list < 0 || list >= ALL_PLACES || index < 0 || index >= parts[list]) {
                return NONE;
            }
            int part = firsts[list];
            for (int i = 0; i < index && part >= 0 && part < ALL_PLACES; i++) {
                part = nexts[part];
            }
            return part;
        }

        /** Returns the place of the expression behind another one in its list; NONE if there is none. */
        int nextOf(int place) {
            return place >= 0 && place < ALL_PLACES ? nexts[place] : NONE;
        }
    }

    /** The scripts as they are typed, and their faults. They are read when they are needed, not at each sign. */
    private static final class Texts {
        private final int[] signs = new int[SCRIPTS * MOST_SIGNS];
        private final int[] lengths = new int[SCRIPTS];
        private final int[] faults = new int[SCRIPTS];
        private final boolean[] areRead = new boolean[SCRIPTS];
        private final Reader reader;

        Texts(Tree tree) {
            reader = new Reader(tree);
        }

        int lengthOf(int script) {
            return lengths[script];
        }

        int signAt(int script, int index) {
            return signs[script * MOST_SIGNS + index];
        }

        int append(int script, int sign) {
            signs[script * MOST_SIGNS + lengths[script]] = sign;
            lengths[script]++;
            areRead[script] = false;
            return lengths[script];
        }

        int cut(int script, int many) {
            lengths[script] -= Math.min(many, lengths[script]);
            areRead[script] = false;
            return lengths[script];
        }

        /** Reads the scripts that were changed since they were read, so that faults and tree are right. */
        void readChanged() {
            for (int script = 0; script < SCRIPTS; script++) {
                if (!areRead[script]) {
                    faults[script] = faultRead(script);
                    areRead[script] = true;
                }
            }
        }

        int faultOf(int script) {
            return faults[script];
        }

        private int faultRead(int script) {
            reader.begin(Tree.rowOf(script));
            for (int i = 0; i < lengths[script]; i++) {
                if (!reader.takesSign(Tree.placeOf(script, i), signAt(script, i))) {
                    return i;
                }
            }
            return reader.mayEnd() ? NONE : lengths[script];
        }
    }

    /** Reads a text sign by sign from left to right, and hangs its expressions into the tree. */
    private static final class Reader {
        private static final int MOST_OPEN = 20, LONGEST_WORD = 6;
        /** What the sign behind may go on with: a number or a name, or nothing. */
        private static final int NO_WORD = 0, MINUS = 1, DIGITS = 2, LETTERS = 3;

        private final Tree tree;
        /** The lists that are open, ahead of them the row of the whole text. */
        private final int[] open = new int[MOST_OPEN + 1];
        private int depth;
        private int state;
        private int word;
        private int wordSize;
        private boolean isNegative;

        Reader(Tree tree) {
            this.tree = tree;
        }

        static boolean isSign(int sign) {
            return sign == ' ' || sign == '(' || sign == ')' || sign == '-' || isDigit(sign) || isLetter(sign);
        }

        private static boolean isDigit(int sign) {
            return isIn(sign, '0', '9');
        }

        private static boolean isLetter(int sign) {
            return isIn(sign, 'a', 'z');
        }

        void begin(int row) {
            tree.make(row, Tree.LIST);
            open[0] = row;
            depth = 0;
            state = NO_WORD;
        }

        boolean mayEnd() {
            return depth == 0 && state != MINUS;
        }

        /** Takes the next sign, or returns false if it cannot stand at its place. */
        boolean takesSign(int place, int sign) {
            if (isDigit(sign)) {
                return takesDigit(place, sign - '0');
            }
            if (isLetter(sign)) {
                return takesLetter(place, Word.digitOf(sign));
            }
            if (sign == '-') {
                return takesMinus(place);
            }
            if (state == MINUS) {
                return false;
            }
            state = NO_WORD;
            if (sign == '(') {
                return opensList(place);
            }
            return sign == ' ' || closesList();
        }

        private boolean takesDigit(int place, int digit) {
            if (state == LETTERS) {
                return false;
            }
            if (state == NO_WORD) {
                beginWord(place, Tree.NUMBER);
            }
            state = DIGITS;
            return growsWord(10, isNegative ? -digit : digit);
        }

        private boolean takesLetter(int place, int digit) {
            if (state == MINUS || state == DIGITS) {
                return false;
            }
            if (state == NO_WORD) {
                beginWord(place, Tree.NAME);
            }
            state = LETTERS;
            return growsWord(Word.BASE, digit);
        }

        private boolean takesMinus(int place) {
            if (state != NO_WORD) {
                return false;
            }
            beginWord(place, Tree.NUMBER);
            isNegative = true;
            state = MINUS;
            return true;
        }

        private void beginWord(int place, int kind) {
            tree.make(place, kind);
            tree.hang(open[depth], place);
            word = place;
            wordSize = 0;
            isNegative = false;
        }

        private boolean growsWord(int base, int digit) {
            if (wordSize >= LONGEST_WORD) {
                return false;
            }
            wordSize++;
            tree.setContent(word, tree.contentOf(word) * base + digit);
            return true;
        }

        private boolean opensList(int place) {
            if (depth >= MOST_OPEN) {
                return false;
            }
            tree.make(place, Tree.LIST);
            tree.hang(open[depth], place);
            depth++;
            open[depth] = place;
            return true;
        }

        private boolean closesList() {
            if (depth <= 0) {
                return false;
            }
            depth--;
            return true;
        }
    }

    /** The fuel, rations, debts and credits of the companies. */
    private static final class Purses {
        private static final int FIRST_TARIFF = 10;

        private final int[] fuels = new int[COMPANIES];
        private final int[] rations = new int[COMPANIES];
        private final boolean[] areBuying = new boolean[COMPANIES];
        /** By borrowers, then by lenders. */
        private final int[][] debts = new int[COMPANIES][COMPANIES];
        private final int[][] credits = new int[COMPANIES][COMPANIES];
        private int tariff = FIRST_TARIFF;

        int fuelOf(int company) {
            return fuels[company];
        }

        int rationsOf(int company) {
            return rations[company];
        }

        int debtOf(int borrower, int lender) {
            return debts[borrower][lender];
        }

        int addRations(int company, int many) {
            rations[company] += many;
            return rations[company];
        }

        int changeTariff(int fuel) {
            int before = tariff;
            tariff = fuel;
            return before;
        }

        boolean changeBuying(int company, boolean buys) {
            boolean before = areBuying[company];
            areBuying[company] = buys;
            return before;
        }

        int changeCredit(int lender, int borrower, int limit) {
            int before = credits[borrower][lender];
            credits[borrower][lender] = limit;
            return before;
        }

        /** Buys fuel for rations that the company has; returns how much they buy, debts included. */
        int buyFuel(int company, int many) {
            int bought = many * tariff;
            rations[company] -= many;
            fuels[company] += bought;
            int forDebts = bought / 2;
            for (int lender = 0; lender < COMPANIES; lender++) {
                int paid = Math.min(forDebts, debtOf(company, lender));
                payFromFuel(company, lender, paid);
                forDebts -= paid;
            }
            return bought;
        }

        /** Pays a debt back with fuel that the borrower has; returns the debt that is left. */
        int payFromFuel(int borrower, int lender, int many) {
            fuels[borrower] -= many;
            fuels[lender] += many;
            debts[borrower][lender] -= many;
            return debts[borrower][lender];
        }

        /** Takes one fuel for a run of the company: its own, bought or lent; returns false if there is none. */
        boolean takesOne(int company) {
            if (fuels[company] == 0 && areBuying[company] && rations[company] > 0) {
                buyFuel(company, 1);
            }
            if (fuels[company] > 0) {
                fuels[company]--;
                return true;
            }
            return borrowsOne(company);
        }

        private boolean borrowsOne(int company) {
            for (int lender = 0; lender < COMPANIES; lender++) {
                boolean lends = lender != company && credits[company][lender] > debts[company][lender];
                if (lends && fuels[lender] > 0) {
                    fuels[lender]--;
                    debts[company][lender]++;
                    return true;
                }
            }
            return false;
        }
    }

    /** The stocks, what was supplied, and all moves. */
    private static final class Book {
        private static final int MOST_MOVES = 3000;

        /** By owners, then by goods; the store is -1, so that the row of an owner is one more. */
        private final int[][] stocks = new int[COMPANIES + 1][GOODS];
        private final int[] supplied = new int[GOODS];
        private final int[] from = new int[MOST_MOVES];
        private final int[] to = new int[MOST_MOVES];
        private final int[] good = new int[MOST_MOVES];
        private final int[] amount = new int[MOST_MOVES];
        private final int[] by = new int[MOST_MOVES];
        private int count;

        int receive(int good, int many) {
            supplied[good] += many;
            stocks[NONE + 1][good] += many;
            return stocks[NONE + 1][good];
        }

        int stockOf(int owner, int good) {
            return stocks[owner + 1][good];
        }

        /** Tells a stock from all that was supplied and all moves. */
        int stockTold(int owner, int asked) {
            int stock = owner == NONE ? supplied[asked] : 0;
            for (int i = 0; i < count; i++) {
                if (good[i] == asked) {
                    stock += to[i] == owner ? amount[i] : 0;
                    stock -= from[i] == owner ? amount[i] : 0;
                }
            }
            return stock;
        }

        int leftStoreBy(int order, int asked) {
            int left = 0;
            for (int i = 0; i < count; i++) {
                if (by[i] == order && good[i] == asked) {
                    left += from[i] == NONE ? amount[i] : 0;
                    left -= to[i] == NONE ? amount[i] : 0;
                }
            }
            return left;
        }

        boolean isFull() {
            return count >= MOST_MOVES;
        }

        void move(int giver, int taker, int moved, int many, int order) {
            if (count < MOST_MOVES) {
                from[count] = giver;
                to[count] = taker;
                good[count] = moved;
                amount[count] = many;
                by[count] = order;
                count++;
                stocks[giver + 1][moved] -= many;
                stocks[taker + 1][moved] += many;
            }
        }

        /** Undoes the latest moves, until only so many are left. */
        void undoTo(int left) {
            for (int i = count - 1; i >= left && i >= 0; i--) {
                stocks[to[i] + 1][good[i]] -= amount[i];
                stocks[from[i] + 1][good[i]] += amount[i];
                count = i;
            }
        }
    }

    /** An order; it is WAITING when it is made. */
    private static final class Order {
        private int company;
        private int script;
        private int hour;
        private int budget;
        private int state;
        private int why;
        private int done;
        private int value;
        private int used;
    }

    /** All orders that were made, and the hour. */
    private static final class Orders {
        private static final int MOST_ORDERS = 60;

        /** All rows are made at once, so that an order is never null. */
        private final Order[] rows = new Order[MOST_ORDERS];
        private int count;
        private int hour;

        Orders() {
            for (int i = 0; i < MOST_ORDERS; i++) {
                rows[i] = new Order();
            }
        }

        boolean areFull() {
            return count >= MOST_ORDERS;
        }

        /** Adds an order; returns its number, or NONE if there can be no more. */
        int add(int company, int script, int hours, int budget) {
            if (areFull()) {
                return NONE;
            }
            Order order = rows[count];
            order.company = company;
            order.script = script;
            order.hour = hour + hours;
            order.budget = budget;
            count++;
            return count - 1;
        }

        void undoFrom(int first) {
            for (int i = first; i < count; i++) {
                rows[i].state = UNDONE;
            }
        }
    }

    /**
     * The first names that the document tells, each with what is told behind it: g a letter of a good,
     * x a name, l a list, p an expression that may be valued. Where it goes on, the last may stand more often.
     */
    private enum Word {
        ADD("add", "pp"), SUB("sub", "pp"), MUL("mul", "pp"), MIN("min", "pp"), MAX("max", "pp"),
        DIV("div", "pp"), MOD("mod", "pp"), LESS("less", "pp"), SAME("same", "pp"), NOT("not", "p"),
        AND("and", "pp"), OR("or", "pp"), IF("if", "ppp"), WHILE("while", "pp", true), DO("do", "p", true),
        LET("let", "xpp", true), SET("set", "xp"), DEF("def", "xlp"), TAKE("take", "gp"), PUT("put", "gp"),
        GIVE("give", "pgp"), AT("at", "ppp"), CALL("call", "p"), BUY("buy", "p"), FUEL("fuel", ""),
        HOUR("hour", "");

        /** A name is kept as a number, its letters being digits from 1 on: six letters fit into an int. */
        private static final int BASE = 27;
        private static final Word[] ALL = values();

        private final int code;
        private final String form;
        private final boolean goesOn;

        Word(String letters, String form) {
            this(letters, form, false);
        }

        Word(String letters, String form, boolean goesOn) {
            int number = 0;
            for (int i = 0; i < letters.length(); i++) {
                number = number * BASE + digitOf(letters.charAt(i));
            }
            this.code = number;
            this.form = form;
            this.goesOn = goesOn;
        }

        static int digitOf(int letter) {
            return letter - 'a' + 1;
        }

        /** Returns the good whose letter a name is; NONE if it is none. */
        static int goodOf(int name) {
            return name >= 1 && name <= GOODS ? name - 1 : NONE;
        }

        /** Returns the word of a name; null if it is none of them. */
        static Word of(int name) {
            for (int i = 0; i < ALL.length; i++) {
                if (ALL[i].code == name) {
                    return ALL[i];
                }
            }
            return null;
        }

        boolean allows(int partsBehind) {
            return partsBehind == form.length() || (goesOn && partsBehind > form.length());
        }
    }

    /** What names mean in a run: the values that are bound to them, and the functions. */
    private static final class Names {
        private static final int MOST_FUNCTIONS = 8, MOST_INNER = 3;
        /** No expression that is being valued binds more names than a function has. */
        private static final int MOST_BOUND = Run.MOST_VALUED * MOST_INNER;

        private final int[] bound = new int[MOST_BOUND];
        private final int[] values = new int[MOST_BOUND];
        private int count;
        /** Bindings below this one are out of sight. */
        private int base;

        private final int[] functions = new int[MOST_FUNCTIONS];
        private final int[] definitions = new int[MOST_FUNCTIONS];
        private int functionCount;

        void clear() {
            count = 0;
            base = 0;
            functionCount = 0;
        }

        void bind(int name, int value) {
            if (count < MOST_BOUND) {
                bound[count] = name;
                values[count] = value;
                count++;
            }
        }

        void unbindLatest() {
            if (count > base) {
                count--;
            }
        }

        /** Puts all bindings out of sight; returns what leave needs to show them again. */
        int enter() {
            int outer = base;
            base = count;
            return outer;
        }

        void leave(int outer) {
            count = base;
            base = outer;
        }

        /** Returns where the latest binding of a name is; NONE if there is none. */
        int find(int name) {
            for (int i = count - 1; i >= base && i >= 0; i--) {
                if (bound[i] == name) {
                    return i;
                }
            }
            return NONE;
        }

        int valueAt(int binding) {
            return isIn(binding, 0, count - 1) ? values[binding] : 0;
        }

        void setAt(int binding, int value) {
            if (isIn(binding, 0, count - 1)) {
                values[binding] = value;
            }
        }

        /** Returns the place of the list that defines a function; NONE if there is none of that name. */
        int definitionOf(int name) {
            for (int i = 0; i < functionCount; i++) {
                if (functions[i] == name) {
                    return definitions[i];
                }
            }
            return NONE;
        }

        /** Keeps a function in place of one of the same name, or returns false if there are too many. */
        boolean defines(int name, int definition) {
            int row = 0;
            while (row < functionCount && functions[row] != name) {
                row++;
            }
            if (row >= MOST_FUNCTIONS) {
                return false;
            }
            functions[row] = name;
            definitions[row] = definition;
            functionCount = Math.max(functionCount, row + 1);
            return true;
        }
    }

    /** Runs orders: values the expressions of their scripts, one after the other. */
    private static final class Run {
        private static final int MOST_VALUED = 30;
        /** Far more than a budget can pay for. */
        private static final int MOST_ROUNDS = 1000000;
        /** What stops a run, beside the reasons why an order is FAULTY. */
        private static final int NOTHING = 0, NO_FUEL = 7;

        private final Tree tree;
        private final Texts texts;
        private final Purses purses;
        private final Book book;
        private final Orders orders;
        private final Names names = new Names();
        private int number;
        private int company;
        private int budget;
        private int used;
        private int trouble;

        Run(Tree tree, Texts texts, Purses purses, Book book, Orders orders) {
            this.tree = tree;
            this.texts = texts;
            this.purses = purses;
            this.book = book;
            this.orders = orders;
        }

        /** Runs an order from the expression on that is not done. */
        void execute(int orderNumber, int fuel) {
            Order order = orders.rows[orderNumber];
            number = orderNumber;
            company = order.company;
            budget = fuel;
            used = 0;
            trouble = NOTHING;
            names.clear();
            texts.readChanged();
            if (texts.faultOf(order.script) != NONE) {
                trouble = BY_TEXT;
            } else {
                int row = Tree.rowOf(order.script);
                int place = tree.partOf(row, order.done);
                for (int i = order.done; i < tree.partsOf(row) && trouble == NOTHING; i++) {
                    runExpression(order, place);
                    place = tree.nextOf(place);
                }
            }
            order.used += used;
            order.state = stateThen();
            order.why = order.state == FAULTY ? trouble : 0;
        }

        private int stateThen() {
            if (trouble == NOTHING) {
                return DONE;
            }
            return trouble == NO_FUEL ? DRY : FAULTY;
        }

        private void runExpression(Order order, int place) {
            int movesAhead = book.count;
            int ordersAhead = orders.count;
            int result = valueAt(place, 0);
            if (trouble == NOTHING) {
                order.value = result;
                order.done++;
            } else {
                book.undoTo(movesAhead);
                orders.undoFrom(ordersAhead);
            }
        }

        /** Ends the run; the answer stands for a value that is not there. */
        private int stop(int why) {
            trouble = why;
            return 0;
        }

        /** Values an expression that has so many others around it; does nothing once the run has ended. */
        private int valueAt(int place, int depth) {
            if (trouble != NOTHING) {
                return 0;
            }
            if (used >= budget || !purses.takesOne(company)) {
                return stop(NO_FUEL);
            }
            used++;
            if (depth >= MOST_VALUED) {
                return stop(TOO_DEEP);
            }
            switch (tree.kindOf(place)) {
                case Tree.NUMBER:
                    return tree.contentOf(place);
                case Tree.NAME:
                    return valueOfName(tree.contentOf(place));
                default:
                    return valueOfList(place, depth);
            }
        }

        private int valueOfName(int name) {
            int binding = names.find(name);
            if (binding != NONE) {
                return names.valueAt(binding);
            }
            int good = Word.goodOf(name);
            return good == NONE ? stop(UNKNOWN) : book.stockOf(company, good);
        }

        private int valueOfList(int list, int depth) {
            int first = tree.partOf(list, 0);
            if (tree.kindOf(first) != Tree.NAME) {
                return stop(MALFORMED);
            }
            Word word = Word.of(tree.contentOf(first));
            if (word == null) {
                return valueOfFunction(tree.contentOf(first), list, depth);
            }
            if (!fits(list, word)) {
                return stop(MALFORMED);
            }
            switch (word) {
                case NOT:
                    return valueOfPart(list, 1, depth) == 0 ? 1 : 0;
                case AND:
                case OR:
                case IF:
                    return valueOfChoice(word, list, depth);
                case WHILE:
                    return valueOfWhile(list, depth);
                case DO:
                    return valueOfRow(list, 1, depth);
                case LET:
                    return valueOfLet(list, depth);
                case SET:
                    return setBinding(list, depth);
                case DEF:
                    return define(list);
                case TAKE:
                    return carry(NONE, company, tree.partOf(list, 1), valueOfPart(list, 2, depth));
                case PUT:
                    return carry(company, NONE, tree.partOf(list, 1), valueOfPart(list, 2, depth));
                case GIVE:
                    return give(list, depth);
                case AT:
                    return orderAhead(list, depth);
                case CALL:
                    return valueOfScript(valueOfPart(list, 1, depth), depth);
                case BUY:
                    return buyWith(valueOfPart(list, 1, depth));
                case FUEL:
                    return purses.fuelOf(company);
                case HOUR:
                    return orders.hour;
                default:
                    return combine(word, valueOfPart(list, 1, depth), valueOfPart(list, 2, depth));
            }
        }

        /** Returns whether a list has as many parts as told, and a letter, name or list where that is told. */
        private boolean fits(int list, Word word) {
            if (!word.allows(tree.partsOf(list) - 1)) {
                return false;
            }
            int part = tree.partOf(list, 1);
            for (int i = 0; i < word.form.length(); i++) {
                if (!suits(part, word.form.charAt(i))) {
                    return false;
                }
                part = tree.nextOf(part);
            }
            return true;
        }

        private boolean suits(int part, char told) {
            int kind = tree.kindOf(part);
            switch (told) {
                case 'g':
                    return kind == Tree.NAME && Word.goodOf(tree.contentOf(part)) != NONE;
                case 'x':
                    return kind == Tree.NAME;
                case 'l':
                    return kind == Tree.LIST;
                default:
                    return true;
            }
        }

        private int valueOfPart(int list, int index, int depth) {
            return valueAt(tree.partOf(list, index), depth + 1);
        }

        /** Values the parts of a list from one on; returns the value of the last one, 0 without any. */
        private int valueOfRow(int list, int from, int depth) {
            int last = 0;
            int part = tree.partOf(list, from);
            for (int i = from; i < tree.partsOf(list) && trouble == NOTHING; i++) {
                last = valueAt(part, depth + 1);
                part = tree.nextOf(part);
            }
            return last;
        }

        private int combine(Word word, int p, int q) {
            if (trouble != NOTHING) {
                return 0;
            }
            switch (word) {
                case ADD:
                    return p + q;
                case SUB:
                    return p - q;
                case MUL:
                    return p * q;
                case MIN:
                    return Math.min(p, q);
                case MAX:
                    return Math.max(p, q);
                case DIV:
                    return q == 0 ? stop(BY_NOTHING) : p / q;
                case MOD:
                    return q == 0 ? stop(BY_NOTHING) : p % q;
                case LESS:
                    return p < q ? 1 : 0;
                default:
                    return p == q ? 1 : 0;
            }
        }

        private int valueOfChoice(Word word, int list, int depth) {
            int p = valueOfPart(list, 1, depth);
            if (word == Word.IF) {
                return valueOfPart(list, p != 0 ? 2 : 3, depth);
            }
            boolean isDecided = word == Word.AND ? p == 0 : p != 0;
            return isDecided ? p : valueOfPart(list, 2, depth);
        }

        private int valueOfWhile(int list, int depth) {
            int rounds = 0;
            while (rounds < MOST_ROUNDS && valueOfPart(list, 1, depth) != 0) {
                valueOfRow(list, 2, depth);
                rounds++;
            }
            return rounds;
        }

        private int valueOfLet(int list, int depth) {
            int p = valueOfPart(list, 2, depth);
            names.bind(tree.contentOf(tree.partOf(list, 1)), p);
            int last = valueOfRow(list, 3, depth);
            names.unbindLatest();
            return last;
        }

        private int setBinding(int list, int depth) {
            int p = valueOfPart(list, 2, depth);
            if (trouble != NOTHING) {
                return 0;
            }
            int binding = names.find(tree.contentOf(tree.partOf(list, 1)));
            if (binding == NONE) {
                return stop(UNKNOWN);
            }
            names.setAt(binding, p);
            return p;
        }

        private int define(int list) {
            int name = tree.contentOf(tree.partOf(list, 1));
            if (Word.of(name) != null || Word.goodOf(name) != NONE || !areInnerNames(tree.partOf(list, 2))) {
                return stop(MALFORMED);
            }
            return names.defines(name, list) ? 0 : stop(TOO_DEEP);
        }

        /** Returns whether a list is up to three names, all unlike. */
        private boolean areInnerNames(int list) {
            int many = tree.partsOf(list);
            if (many > Names.MOST_INNER) {
                return false;
            }
            for (int i = 0; i < many; i++) {
                int part = tree.partOf(list, i);
                if (tree.kindOf(part) != Tree.NAME) {
                    return false;
                }
                for (int j = 0; j < i; j++) {
                    if (tree.contentOf(tree.partOf(list, j)) == tree.contentOf(part)) {
                        return false;
                    }
                }
            }
            return true;
        }

        private int valueOfFunction(int name, int list, int depth) {
            int definition = names.definitionOf(name);
            if (definition == NONE) {
                return stop(UNKNOWN);
            }
            int inner = tree.partOf(definition, 2);
            int many = tree.partsOf(inner);
            if (tree.partsOf(list) - 1 != many) {
                return stop(MALFORMED);
            }
            // All are valued ahead of binding any, for none may see the names of the function.
            int p = many > 0 ? valueOfPart(list, 1, depth) : 0;
            int q = many > 1 ? valueOfPart(list, 2, depth) : 0;
            int r = many > 2 ? valueOfPart(list, 3, depth) : 0;
            int outer = names.enter();
            bindInner(inner, 0, p);
            bindInner(inner, 1, q);
            bindInner(inner, 2, r);
            int result = valueOfPart(definition, 3, depth);
            names.leave(outer);
            return result;
        }

        private void bindInner(int inner, int index, int value) {
            int part = tree.partOf(inner, index);
            if (part != NONE) {
                names.bind(tree.contentOf(part), value);
            }
        }

        private int valueOfScript(int script, int depth) {
            if (trouble != NOTHING) {
                return 0;
            }
            if (!isIn(script, 0, SCRIPTS - 1) || texts.faultOf(script) != NONE) {
                return stop(REFUSED);
            }
            int outer = names.enter();
            int last = valueOfRow(Tree.rowOf(script), 0, depth);
            names.leave(outer);
            return last;
        }

        /** Moves as much as is wanted of the good whose letter is told, but no more than is there. */
        private int carry(int giver, int taker, int letter, int wanted) {
            if (trouble != NOTHING) {
                return 0;
            }
            int good = Word.goodOf(tree.contentOf(letter));
            if (wanted < 0 || good == NONE) {
                return stop(REFUSED);
            }
            int many = Math.min(wanted, book.stockOf(giver, good));
            if (giver == taker || many == 0) {
                return 0;
            }
            if (book.isFull()) {
                return stop(TOO_DEEP);
            }
            book.move(giver, taker, good, many, number);
            return many;
        }

        private int give(int list, int depth) {
            int taker = valueOfPart(list, 1, depth);
            int wanted = valueOfPart(list, 3, depth);
            if (trouble == NOTHING && !isIn(taker, 0, COMPANIES - 1)) {
                return stop(REFUSED);
            }
            return carry(company, taker, tree.partOf(list, 2), wanted);
        }

        private int orderAhead(int list, int depth) {
            int hours = valueOfPart(list, 1, depth);
            int script = valueOfPart(list, 2, depth);
            int fuel = valueOfPart(list, 3, depth);
            if (trouble != NOTHING) {
                return 0;
            }
            if (!isIn(hours, 1, MOST_AHEAD) || !isIn(script, 0, SCRIPTS - 1) || !isIn(fuel, 1, MOST_BUDGET)) {
                return stop(REFUSED);
            }
            return orders.add(company, script, hours, fuel);
        }

        private int buyWith(int rations) {
            if (trouble != NOTHING) {
                return 0;
            }
            if (rations < 0) {
                return stop(REFUSED);
            }
            return purses.buyFuel(company, Math.min(rations, purses.rationsOf(company)));
        }
    }
}
