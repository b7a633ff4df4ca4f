/** The sentences of the part "Values" that name a bound, one by one, each looked at on both sides. */
public final class BoundsOfValuesTest {
    private static final int TOO_DEEP = 2, UNKNOWN = 3, MALFORMED = 4, BY_NOTHING = 5, REFUSED = 6;
    private static final String LEAST = "(mul 65536 32768)", MOST = "(sub (mul 65536 32768) 1)";
    private static final String[] WORDS = {
        "add 1 1", "sub 1 1", "mul 1 1", "min 1 1", "max 1 1", "div 1 1", "mod 1 1", "less 1 1", "same 1 1", "not 1",
        "and 1 1", "or 0 1", "if 1 1 1", "while 0 1", "do 1", "let x 1 1", "set x 1", "def ff () 1", "take a 1",
        "put b 1", "give 1 b 1", "at 1 1 1", "call 1", "buy 1", "fuel", "hour",
    };
    private static String sentence;

    public static void main(String[] args) {
        thirtyOthersAreBeingValued();
        byWhichItWasCalled();
        valuesGoRound();
        theLettersAToH();
        alsoIfItIsEmpty();
        anotherNumberOfExpressions();
        somethingElseIsTold();
        aheadOfValuingAnyOfThem();
        ifQIs0();
        lessOrTheSame();
        theOtherOneIsNotValued();
        aRowWithOneOrMore();
        whileTheyAreValued();
        ifThereIsNoneItIsUnknown();
        upToThreeNamesAllUnlike();
        namesThatNoFunctionMayHave();
        eightFunctions();
        asManyValuesAsItHasNames();
        noMoreThanThereIs();
        belowZeroIsRefused();
        noCompanyIsRefused();
        toItselfMovesNothing();
        hoursScriptsAndBudgets();
        sixtyOrders();
        noScriptIsRefused();
        rationsThatTheCompanyHas();
        Due.end();
    }

    /** Company 0 has 998 fuel, 100 rations and 5 of good b, and the store 9 of good a, when order 1 runs the text. */
    private static Due ran(String text, String... others) {
        Due due = new Due(sentence + " '" + text + "'").with("supply 0 9", "supply 1 5", "giveRations 0 200");
        due.with("buy 0 100").text(7, "(take b 5)").with("order 0 7 1 2", "pass 1", "erase 7 99");
        for (int i = 0; i < others.length; i++) {
            due.text(i + 1, others[i]);
        }
        return due.text(0, text).with("order 0 0 1 900", "pass 1");
    }

    private static Due value(int value, String text, String... others) {
        return ran(text, others).is(1, "state 1").is(0, "why 1").is(value, "value 1");
    }

    private static Due faulty(int why, String text, String... others) {
        return ran(text, others).is(3, "state 1").is(why, "why 1");
    }

    private static String in(int lists, String text) {
        return "(do ".repeat(lists) + text + ")".repeat(lists);
    }

    private static void thirtyOthersAreBeingValued() {
        sentence = "If 30 others are being valued, of which it is a part, it is too deep.";
        // 19 lists of this text and the call are around what script 1 has
        value(5, in(19, "(call 1)"), in(9, "5")).is(19 + 2 + 10, "used 1");
        faulty(TOO_DEEP, in(19, "(call 1)"), in(10, "5")).is(19 + 2 + 11, "used 1");
        value(2, in(19, "(call 1)"), in(9, "(hour)"));
        faulty(TOO_DEEP, in(19, "(call 1)"), in(9, "(hour)") + in(10, "6")).is(19 + 2 + 10 + 11, "used 1");
        // one fuel is taken first, and without that the run is dry
        ran(in(19, "(call 1)"), in(10, "5")).is(2, "takeUp 1 31").is(0, "why 1").is(3, "takeUp 1 32")
            .is(TOO_DEEP, "why 1");
        // those that follow one another are not parts of one another
        value(40, "(let n 40(while(less c n)(set n(sub n 1))))").is(3 + 41 * 3 + 40 * 4, "used 1");
    }

    private static void byWhichItWasCalled() {
        sentence = "If 30 others are being valued, by which it was called, it is too deep.";
        value(7, "(def ff(n)(if n(ff(sub n 1))7))(ff 13)");
        faulty(TOO_DEEP, "(def ff(n)(if n(ff(sub n 1))7))(ff 14)");
        faulty(TOO_DEEP, "(def ff()(ff))(ff)").is(1, "done 1").is(1 + 31, "used 1");
        faulty(TOO_DEEP, "(call 0)").is(30 * 2, "used 1");
    }

    private static void valuesGoRound() {
        sentence = "Sums, differences, products and quotients go round.";
        int least = Integer.MIN_VALUE;
        int most = Integer.MAX_VALUE;
        value(least, LEAST);
        value(most, MOST);
        value(least, "(add " + MOST + " 1)");
        value(most, "(add " + LEAST + " -1)");
        value(0, "(add " + LEAST + " " + LEAST + ")");
        value(least, "(sub " + MOST + " -1)");
        value(least, "(sub 0 " + LEAST + ")");
        value(least, "(mul " + LEAST + " -1)");
        value(1, "(mul " + MOST + " " + MOST + ")");
        value(-729379967, "(mul 999999 999999)");
        value(729379967, "(mul 999999 -999999)");
        sentence = "The least int divided by -1 is itself.";
        value(least, "(div " + LEAST + " -1)");
        value(0, "(mod " + LEAST + " -1)");
        value(-most, "(div " + MOST + " -1)");
        value(1, "(div " + LEAST + " " + LEAST + ")");
        value(0, "(div " + MOST + " " + LEAST + ")");
        value(most, "(mod " + MOST + " " + LEAST + ")");
    }

    private static void theLettersAToH() {
        sentence = "One of the letters a to h is the stock of the company of the good 0 to 7; otherwise it is unknown.";
        value(0, "a");
        value(5, "b");
        for (int good = 0; good < 8; good++) {
            char letter = (char) ('a' + good);
            ran("(add " + letter + " (take " + letter + " 7))" + letter).is(1, "state 1").is(2, "done 1");
            Due due = new Due(sentence).with("supply " + good + " 3").fuel(3, 10);
            due.text(0, "(take " + letter + " 2)" + letter).with("order 3 0 1 9", "pass 1").is(2, "value 0");
            due.is(2, "stock 3 " + good).is(1, "stock -1 " + good);
        }
        faulty(UNKNOWN, "i");
        faulty(UNKNOWN, "z");
        faulty(UNKNOWN, "bb");
        faulty(UNKNOWN, "hh");
        value(8, "(let b 8 b)");
        value(8, "(let i 8 i)");
    }

    private static void alsoIfItIsEmpty() {
        sentence = "A list's first expression must be a name; otherwise, also if it is empty, it is malformed.";
        for (String list : new String[] {"()", "( )", "(1)", "(-1 1)", "(())", "((fuel))", "((add) 1 1)"}) {
            faulty(MALFORMED, list).is(1, "used 1").is(0, "done 1");
        }
        faulty(UNKNOWN, "(i)");
        faulty(UNKNOWN, "(b)");
        faulty(UNKNOWN, "(ff 1 2 3 4)").is(1, "used 1");
        faulty(UNKNOWN, "(ff () (i))").is(1, "used 1");
    }

    private static void anotherNumberOfExpressions() {
        sentence = "A list with another number of expressions than told is malformed.";
        for (String word : WORDS) {
            boolean goesOn = word.startsWith("while") || word.startsWith("do") || word.startsWith("let");
            ran("(let x 0 (" + word + "))").is(1, "state 1");
            ran("(let x 0 (" + word + " 1))").is(goesOn ? 1 : 3, "state 1").is(goesOn ? 0 : MALFORMED, "why 1");
            ran("(let x 0 (" + word + " 1 1 1))").is(goesOn ? 1 : 3, "state 1").is(goesOn ? 0 : MALFORMED, "why 1");
            String fewer = word.substring(0, Math.max(0, word.lastIndexOf(' ')));
            faulty(MALFORMED, "(let x 0 (" + fewer + "))").is(3, "used 1");
        }
    }

    private static void somethingElseIsTold() {
        sentence = "A list with something else where g, x or f is told is malformed.";
        for (char letter = 'a'; letter <= 'j'; letter++) {
            boolean isGood = letter <= 'h';
            for (String list : new String[] {"(take # 0)", "(put # 0)", "(give 1 # 0)"}) {
                ran(list.replace('#', letter)).is(isGood ? 1 : 3, "state 1").is(isGood ? 0 : MALFORMED, "why 1");
            }
        }
        for (String other : new String[] {"0", "-1", "(a)", "()", "aa", "take"}) {
            faulty(MALFORMED, "(take " + other + " 0)");
            faulty(MALFORMED, "(put " + other + " 0)");
            faulty(MALFORMED, "(give 1 " + other + " 0)");
        }
        for (String other : new String[] {"0", "-1", "(x)", "()"}) {
            faulty(MALFORMED, "(let " + other + " 1 1)");
            faulty(MALFORMED, "(let x 1 (set " + other + " 1))");
            faulty(MALFORMED, "(def " + other + " () 1)");
            faulty(MALFORMED, "(def ff (" + other + ") 1)");
            faulty(MALFORMED, "(def ff (x y " + other + ") 1)");
        }
        faulty(MALFORMED, "(def ff x 1)");
        faulty(MALFORMED, "(def ff 0 1)");
        value(3, "(let hour 3 hour)");
        value(4, "(let a 3 (set a 4) a)");
    }

    private static void aheadOfValuingAnyOfThem() {
        sentence = "It is malformed ahead of valuing any of them.";
        faulty(MALFORMED, "(take i (put b 1))").is(1, "used 1");
        faulty(MALFORMED, "(add (div 1 0))").is(1, "used 1");
        faulty(MALFORMED, "(not x x)").is(1, "used 1");
        faulty(MALFORMED, "(let 5 x x)").is(1, "used 1");
        faulty(MALFORMED, "(set 5 x)").is(1, "used 1");
        faulty(MALFORMED, "(give x i x)").is(1, "used 1");
        faulty(MALFORMED, "(def ff()1)(ff x)").is(2, "used 1");
    }

    private static void ifQIs0() {
        sentence = "If q is 0, that is a division by nothing.";
        for (String word : new String[] {"div", "mod"}) {
            for (String p : new String[] {"0", "1", "-1", LEAST}) {
                faulty(BY_NOTHING, "(" + word + " " + p + " 0)");
                faulty(BY_NOTHING, "(" + word + " " + p + " -0)");
                ran("(" + word + " " + p + " 1)").is(1, "state 1");
                ran("(" + word + " " + p + " -1)").is(1, "state 1");
            }
        }
        faulty(BY_NOTHING, "(div 7 (sub 3 3))");
        value(0, "(div 0 5)");
        value(2, "(div 8 3)");
        value(-2, "(div -8 3)");
        value(-2, "(div 8 -3)");
        value(2, "(div -8 -3)");
        value(2, "(mod 8 3)");
        value(-2, "(mod -8 3)");
        value(2, "(mod 8 -3)");
        value(-2, "(mod -8 -3)");
    }

    private static void lessOrTheSame() {
        sentence = "1, if p is less than q, or the same, otherwise 0; 1, if p is 0, otherwise 0.";
        value(1, "(less 4 5)");
        value(0, "(less 5 5)");
        value(0, "(less 5 4)");
        value(1, "(less " + LEAST + " " + MOST + ")");
        value(0, "(less " + MOST + " " + LEAST + ")");
        value(0, "(same 4 5)");
        value(1, "(same 5 5)");
        value(1, "(same 0 -0)");
        value(0, "(same " + LEAST + " " + MOST + ")");
        value(0, "(same " + LEAST + " 0)");
        value(1, "(not 0)");
        value(0, "(not 1)");
        value(0, "(not -1)");
        value(0, "(not " + LEAST + ")");
        value(Integer.MIN_VALUE, "(min " + MOST + " " + LEAST + ")");
        value(Integer.MAX_VALUE, "(max " + LEAST + " " + MOST + ")");
        value(5, "(min 5 5)");
        value(5, "(max 5 5)");
    }

    private static void theOtherOneIsNotValued() {
        sentence = "And q is not valued then; the other one is not valued.";
        value(0, "(and 0 (put b 1))").is(2, "used 1").is(1, "moves");
        value(1, "(and 7 (put b 1))").is(4, "used 1").is(2, "moves");
        value(1, "(and -1 (put b 1))").is(4, "used 1");
        value(7, "(or 7 (put b 1))").is(2, "used 1").is(1, "moves");
        value(-1, "(or -1 (put b 1))").is(2, "used 1").is(1, "moves");
        value(1, "(or 0 (put b 1))").is(4, "used 1").is(2, "moves");
        value(1, "(if 7 (put b 1) (put b 2))").is(4, "used 1").is(2, "moves");
        value(1, "(if -1 (put b 1) (put b 2))").is(4, "used 1").is(2, "moves");
        value(2, "(if 0 (put b 1) (put b 2))").is(4, "used 1").is(2, "moves");
    }

    private static void aRowWithOneOrMore() {
        sentence = "With one q or more: all q are valued.";
        faulty(MALFORMED, "(while 0)");
        faulty(MALFORMED, "(do)");
        faulty(MALFORMED, "(let x 1)");
        value(0, "(while 0 (put b 1))").is(1, "moves");
        value(5, "(while b (put b 1))").is(6, "moves").is(1 + 6 + 5 * 2, "used 1");
        value(3, "(while b (put b 1) 7 (put b 1))").is(6, "moves");
        value(1, "(do (put b 1))").is(2, "moves");
        value(2, "(do (put b 1) (put b 1) (put b 2))").is(4, "moves");
        value(1, "(let x 9 (put b 1))").is(2, "moves");
        value(9, "(let x 9 (put b 1) (put b 1) x)").is(3, "moves");
    }

    private static void whileTheyAreValued() {
        sentence = "x is bound to p while all q are valued.";
        faulty(UNKNOWN, "(let x 1 x)x").is(1, "done 1");
        faulty(UNKNOWN, "(do (let x 1 x) x)");
        faulty(UNKNOWN, "(let x (add x 1) 5)");
        value(3, "(let x 1 (let x (add x 1) (add x 1)))");
        value(1, "(let x 1 (let x 2 x) x)");
        value(5, "(do (let b 1 b) b)");
        sentence = "While its names, and no others, are bound to the values.";
        faulty(UNKNOWN, "(def ff(x)x)(ff 1)x").is(2, "done 1");
        faulty(UNKNOWN, "(def ff(x)y)(let y 1 (ff 2))");
        value(6, "(def ff(x)(add x b))(let b 9 (ff 1))");
        value(9, "(def ff(x)x)(let x 9 (do (ff 1) x))");
        value(4, "(def ff(x)(let y x (add y x)))(ff 2)");
        sentence = "While no names are bound.";
        faulty(UNKNOWN, "(let x 1 (call 1))", "x");
        value(5, "(let b 1 (call 1))", "b");
        value(1, "(let b 1 (call 1) b)", "(let b 7 b)");
        faulty(UNKNOWN, "(call 1)x", "(let x 7 x)").is(1, "done 1");
    }

    private static void ifThereIsNoneItIsUnknown() {
        sentence = "The latest binding of x gets the value p; if there is none, x is unknown, behind valuing p.";
        faulty(UNKNOWN, "(set x 1)").is(2, "used 1");
        faulty(UNKNOWN, "(set b 1)").is(2, "used 1");
        faulty(BY_NOTHING, "(set x (div 1 0))").is(4, "used 1");
        faulty(UNKNOWN, "(let y 1 (set x 1))");
        value(2, "(let x 1 (set x 2))");
        value(1, "(let x 1 (let x 5 (set x 2)) x)");
        value(2, "(let x 1 (let y 5 (set x 2)) x)");
        faulty(UNKNOWN, "(def ff()(set x 2))(let x 1 (ff))");
        faulty(UNKNOWN, "(let x 1 (call 1))", "(set x 2)");
    }

    private static void upToThreeNamesAllUnlike() {
        sentence = "With up to three names in the inner list, all unlike.";
        value(0, "(def ff()1)").is(1, "used 1");
        value(0, "(def ff(x)1)");
        value(0, "(def ff(x y)1)");
        value(0, "(def ff(x y z)1)");
        faulty(MALFORMED, "(def ff(w x y z)1)");
        faulty(MALFORMED, "(def ff(x x)1)");
        faulty(MALFORMED, "(def ff(x x z)1)");
        faulty(MALFORMED, "(def ff(x y x)1)");
        faulty(MALFORMED, "(def ff(x y y)1)");
        sentence = "The inner names can be any.";
        value(6, "(def ff(add hour a)(add add(add hour a)))(ff 1 2 3)");
        value(3, "(def ff(ff)ff)(ff 3)");
    }

    private static void namesThatNoFunctionMayHave() {
        sentence = "f must not be one of the 26 first names from add to hour, nor a letter a to h.";
        for (String word : WORDS) {
            faulty(MALFORMED, "(def " + word.split(" ")[0] + "()1)");
        }
        for (char letter = 'a'; letter <= 'z'; letter++) {
            if (letter <= 'h') {
                faulty(MALFORMED, "(def " + letter + "()1)");
            } else {
                value(6, "(def " + letter + "()6)(" + letter + ")");
            }
        }
        for (String name : new String[] {"aa", "ad", "addd", "hours", "give", "zzzzzz", "def"}) {
            boolean isWord = name.equals("give") || name.equals("def");
            ran("(def " + name + "()6)").is(isWord ? 3 : 1, "state 1");
        }
    }

    private static void eightFunctions() {
        sentence = "At most 8 functions can be there; one more is too deep.";
        StringBuilder eight = new StringBuilder();
        for (char letter = 'i'; letter <= 'p'; letter++) {
            eight.append("(def ").append(letter).append("()").append((int) letter - 'i').append(")");
        }
        value(0, eight + "(i)").is(9, "done 1");
        value(7, eight + "(p)").is(9, "done 1");
        faulty(TOO_DEEP, eight + "(def q()8)").is(8, "done 1").is(9, "used 1");
        faulty(UNKNOWN, eight + "(q)");
        sentence = "A function in place of one of the same name.";
        value(9, eight + "(def i()9)(i)").is(10, "done 1");
        value(9, eight + "(def p()9)(p)").is(10, "done 1");
        value(4, eight + "(def p()9)(m)").is(10, "done 1");
        // each run has its own
        value(8, eight + "(def p()8)(p)").with("erase 0 99").text(0, "(def q()8)(q)").with("order 0 0 1 9", "pass 1")
            .is(1, "state 2").is(8, "value 2");
    }

    private static void asManyValuesAsItHasNames() {
        sentence = "For a function f, with as many values as it has names.";
        String[] names = {"", "x", "x y", "x y z"};
        String[] values = {"", " 4", " 4 5", " 4 5 6", " 4 5 6 7"};
        for (int i = 0; i < names.length; i++) {
            for (int j = 0; j < values.length; j++) {
                Due due = ran("(def ff(" + names[i] + ")3)(ff" + values[j] + ")");
                due.is(i == j ? 1 : 3, "state 1").is(i == j ? 0 : MALFORMED, "why 1");
                due.is(i == j ? 3 + i : 2, "used 1");
            }
        }
        value(456, "(def ff(x y z)(add(mul x 100)(add(mul y 10)z)))(ff 4 5 6)");
    }

    private static void noMoreThanThereIs() {
        sentence = "Moves as much as p, but no more than there is; the value is how much is moved.";
        int[] wanted = {0, 1, 8, 9, 10, 999999};
        for (int many : wanted) {
            int moved = Math.min(many, 9);
            value(moved, "(take a " + many + ")").is(moved, "stock 0 0").is(9 - moved, "stock -1 0")
                .is(many == 0 ? 1 : 2, "moves").is(moved, "leftBy 1 0");
        }
        for (int many : new int[] {0, 1, 4, 5, 6, 999999}) {
            int moved = Math.min(many, 5);
            value(moved, "(put b " + many + ")").is(5 - moved, "stock 0 1").is(moved, "stock -1 1")
                .is(many == 0 ? 1 : 2, "moves").is(-moved, "leftBy 1 1");
            value(moved, "(give 3 b " + many + ")").is(5 - moved, "stock 0 1").is(moved, "stock 3 1")
                .is(many == 0 ? 1 : 2, "moves").is(0, "leftBy 1 1");
        }
        value(9, "(take a " + MOST + ")").is(9, "stockByMoves 0 0");
        value(0, "(take c 5)").is(1, "moves");
        value(0, "(put a 5)").is(1, "moves");
        value(0, "(give 3 a 5)").is(1, "moves");
    }

    private static void belowZeroIsRefused() {
        sentence = "If p is below 0, the number is refused.";
        for (String p : new String[] {"-1", "-999999", LEAST}) {
            faulty(REFUSED, "(take a " + p + ")").is(1, "moves");
            faulty(REFUSED, "(put b " + p + ")").is(1, "moves");
            faulty(REFUSED, "(give 3 b " + p + ")").is(1, "moves");
            faulty(REFUSED, "(give 0 b " + p + ")").is(1, "moves");
        }
        value(0, "(take a -0)");
        faulty(REFUSED, "(take c -1)");
        faulty(REFUSED, "(put a -1)");
    }

    private static void noCompanyIsRefused() {
        sentence = "If there is no company k, the number is refused; k is valued ahead of p.";
        for (int company = 0; company < 4; company++) {
            boolean isItself = company == 0;
            value(isItself ? 0 : 2, "(give " + company + " b 2)").is(isItself ? 5 : 3, "stock 0 1")
                .is(isItself ? 5 : 2, "stock " + company + " 1");
        }
        for (String k : new String[] {"-1", "4", "256", LEAST, MOST}) {
            faulty(REFUSED, "(give " + k + " b 2)").is(5, "stock 0 1");
            faulty(REFUSED, "(give " + k + " b 0)");
        }
        faulty(UNKNOWN, "(give x b (div 1 0))").is(2, "used 1");
        value(3, "(let x 1 (give (set x 3) b x))").is(3, "stock 3 1");
    }

    private static void toItselfMovesNothing() {
        sentence = "To give to itself moves nothing, and has the value 0.";
        for (String p : new String[] {"0", "1", "5", "6", MOST}) {
            value(0, "(give 0 b " + p + ")").is(5, "stock 0 1").is(1, "moves").is(5, "stockByMoves 0 1");
        }
    }

    private static void hoursScriptsAndBudgets() {
        sentence = "If h is not 1 to 100, n not 0 to 7, or b not 1 to 1000, the number is refused.";
        for (String h : new String[] {"1", "100"}) {
            value(2, "(at " + h + " 1 1)").is(2 + Integer.parseInt(h), "hourOf 2").is(0, "state 2");
        }
        for (String h : new String[] {"0", "-1", "101", LEAST, MOST}) {
            faulty(REFUSED, "(at " + h + " 1 1)").is(2, "orders");
        }
        for (String n : new String[] {"0", "7"}) {
            value(2, "(at 1 " + n + " 1)").is(3, "orders");
        }
        for (String n : new String[] {"-1", "8", LEAST, MOST}) {
            faulty(REFUSED, "(at 1 " + n + " 1)").is(2, "orders");
        }
        for (String b : new String[] {"1", "1000"}) {
            value(2, "(at 1 1 " + b + ")").is(3, "orders");
        }
        for (String b : new String[] {"0", "-1", "1001", LEAST, MOST}) {
            faulty(REFUSED, "(at 1 1 " + b + ")").is(2, "orders");
        }
        // the budget is the order's own: 1 is enough for one number, 2 for two
        value(3, "(at 1 1 1)(at 1 1 2)", "7 8").with("pass 1").is(2, "state 2").is(1, "done 2").is(1, "state 3");
    }

    private static void sixtyOrders() {
        sentence = "If there are 60 orders, none is made, and the value is -1.";
        Due due = new Due(sentence).text(0, "(at 1 1 1)").text(1, "(at 1 8 1)").fuel(0, 100);
        for (int i = 0; i < 57; i++) {
            due.is(i, "order 1 2 90 1");
        }
        due.is(57, "order 0 0 1 9").is(58, "order 0 0 1 9").is(2, "pass 1").is(59, "value 57").is(60, "orders");
        due.is(-1, "value 58").is(1, "state 58").is(Due.STATE, "order 0 0 1 9").is(2, "hourOf 59").is(1, "pass 1");
        // a number is refused nevertheless
        due = new Due(sentence).text(1, "(at 1 8 1)").fuel(0, 10);
        for (int i = 0; i < 60; i++) {
            due.is(i, "order 0 1 1 9");
        }
        due.with("pass 1").is(3, "state 0").is(REFUSED, "why 0");
    }

    private static void noScriptIsRefused() {
        sentence = "If there is no script n, or its text has a fault, the number is refused.";
        for (int script = 1; script < 8; script++) {
            value(0, "(call " + script + ")").is(2, "used 1");
        }
        for (String n : new String[] {"-1", "8", "256", LEAST, MOST}) {
            faulty(REFUSED, "(call " + n + ")");
        }
        for (String text : new String[] {"(", ")", "5 -", "a1", "(add 1 2))"}) {
            faulty(REFUSED, "(call 1)", text).is(2, "used 1");
        }
        sentence = "The value is that of the last one, 0 without any.";
        value(0, "(call 1)", "  ");
        value(8, "(call 1)", "7 8").is(4, "used 1");
    }

    private static void rationsThatTheCompanyHas() {
        sentence = "Buys fuel with rations, as many as p, but no more than the company has; below 0 it is refused.";
        value(0, "(buy 0)").is(100, "rations 0").is(996, "fuel 0");
        value(10, "(buy 1)").is(99, "rations 0").is(1006, "fuel 0");
        value(1000, "(buy 100)").is(0, "rations 0").is(1996, "fuel 0");
        value(1000, "(buy 101)").is(0, "rations 0").is(1996, "fuel 0");
        value(1000, "(buy " + MOST + ")").is(0, "rations 0");
        value(0, "(do (buy 100) (buy 1))").is(0, "rations 0");
        faulty(REFUSED, "(buy -1)").is(100, "rations 0");
        faulty(REFUSED, "(buy " + LEAST + ")").is(100, "rations 0");
        faulty(REFUSED, "(do (buy 100) (buy -1))").is(0, "rations 0");
    }
}
