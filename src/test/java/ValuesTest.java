/** The value of each expression, what it costs, and what goes wrong in it (promises 25, 26, 28 and 29). */
public final class ValuesTest {
    private static final int TOO_DEEP = 2, UNKNOWN = 3, MALFORMED = 4, BY_NOTHING = 5, REFUSED = 6;

    public static void main(String[] args) {
        numbersAndNames();
        sums();
        choices();
        loops();
        bindings();
        functionsDefined();
        functionsCalled();
        functionsByCall();
        malformed();
        takePutGive();
        atMakesOrders();
        atRefuses();
        callsOfScripts();
        buys();
        depth();
        depthOfCalls();
        order();
        Due.end();
    }

    /** Company 1 with 1000 fuel, 50 rations and 7 of good c; the store has 20 of good a, and 5 of good h. */
    private static Due ran(String text, String... others) {
        Due due = new Due("'" + text + "'").with("supply 0 20", "supply 2 7", "supply 7 5").fuel(1, 1000);
        due.with("giveRations 1 50").text(7, "(take c 7)").with("order 1 7 1 2", "pass 1", "erase 7 99");
        for (int i = 0; i < others.length; i++) {
            due.text(i + 1, others[i]);
        }
        return due.text(0, text).with("order 1 0 1 1000", "pass 1");
    }

    private static Due value(int value, String text, String... others) {
        return ran(text, others).is(1, "state 1").is(0, "why 1").is(value, "value 1");
    }

    private static Due faulty(int why, String text, String... others) {
        return ran(text, others).is(3, "state 1").is(why, "why 1");
    }

    private static void cost(int fuel, String text, String... others) {
        ran(text, others).is(fuel, "used 1").is(998 - fuel, "fuel 1");
    }

    private static void numbersAndNames() {
        value(5, "5");
        value(-999999, "-999999");
        value(0, "-0");
        value(7, "-000007 007");
        value(7, "c");
        value(0, "a");
        value(0, "h");
        faulty(UNKNOWN, "i");
        faulty(UNKNOWN, "aa");
        faulty(UNKNOWN, "add");
        faulty(UNKNOWN, "zzzzzz");
        cost(1, "5");
        cost(2, "c 5");
        cost(1, "x");
        value(0, "");
        value(4, "1 2 3 4").is(4, "done 1");
    }

    private static void sums() {
        value(7, "(add 3 4)");
        value(-1, "(sub 3 4)");
        value(-12, "(mul 3 -4)");
        value(3, "(min 3 4)");
        value(4, "(max 3 4)");
        value(-4, "(min 3 -4)");
        value(-3, "(max -3 -4)");
        value(-3, "(div -7 2)");
        value(-1, "(mod -7 2)");
        value(1, "(mod 7 -2)");
        value(-3, "(div 7 -2)");
        faulty(BY_NOTHING, "(div 0 0)");
        faulty(BY_NOTHING, "(mod 5 0)");
        value(1, "(less 3 4)");
        value(0, "(less 4 4)");
        value(0, "(less 4 -4)");
        value(1, "(same 4 4)");
        value(0, "(same 4 -4)");
        value(999999 * 999999, "(mul 999999 999999)");
        String least = "(mul 65536 32768)";
        value(Integer.MIN_VALUE, least);
        value(Integer.MIN_VALUE, "(div " + least + " -1)");
        value(0, "(mod " + least + " -1)");
        value(Integer.MAX_VALUE, "(sub " + least + " 1)");
        value(Integer.MIN_VALUE, "(add (sub " + least + " 1) 1)");
        cost(3, "(add 3 4)");
        cost(7, "(add(sub 1 2)(mul 3 4))");
        cost(3, "(div 1 0)");
    }

    private static void choices() {
        value(1, "(not 0)");
        value(0, "(not -3)");
        value(0, "(and 0 x)");
        value(6, "(and 5 6)");
        value(0, "(and 5 0)");
        value(5, "(or 5 x)");
        value(6, "(or 0 6)");
        value(2, "(if 1 2 x)");
        value(2, "(if -1 2 x)");
        value(3, "(if 0 x 3)");
        faulty(UNKNOWN, "(and 1 x)");
        faulty(UNKNOWN, "(or 0 x)");
        faulty(UNKNOWN, "(if x 1 2)");
        cost(2, "(and 0 5)");
        cost(3, "(and 2 5)");
        cost(2, "(or 2 5)");
        cost(3, "(or 0 5)");
        cost(3, "(if 1 2 3)");
        cost(3, "(if 0 2 3)");
        cost(2, "(not 5)");
    }

    private static void loops() {
        value(0, "(while 0 x)");
        value(3, "(let i 3 (while i (set i (sub i 1))))");
        value(4, "(let i 0 (while (less i 4) (set i (add i 1)) 7 8))");
        value(5, "(let i 0 (do (while (less i 5) 9 (set i (add i 1))) i))");
        value(3, "(do 1 2 3)");
        value(1, "(do 1)");
        cost(4, "(do 1 2 3)");
        cost(2, "(while 0 1)");
        // let 1, 1 for its 2, while 1, then i 1 three times, and set, sub, i, 1 twice
        cost(1 + 1 + 1 + 3 + 8, "(let i 2 (while i (set i (sub i 1))))");
        faulty(UNKNOWN, "(while 1 x)");
        faulty(UNKNOWN, "(while x 1)");
        ran("(while 1 2)").is(2, "state 1").is(998, "used 1").is(0, "fuel 1");
    }

    private static void bindings() {
        value(5, "(let x 5 x)");
        value(9, "(let x 5 8 (add x 4))");
        value(6, "(let x 5 (let x (add x 1) x))");
        value(11, "(let x 5 (add (let x 6 x) x))");
        value(5, "(let a 5 a)");
        value(5, "(let add 5 add)");
        value(7, "(let add 5 (add add 2))");
        value(8, "(let x 5 (set x 8))");
        value(8, "(let x 5 (set x 8) x)");
        value(13, "(let x 5 (add (let x 6 (set x 8) x) x))");
        value(3, "(let x 5 (let y 6 (set x 3) x))");
        value(2, "(let a 5 (set a 2) a)");
        value(20, "(let a 9 (do (take a 20)))").is(20, "stock 1 0");
        faulty(UNKNOWN, "(let x 5 5)x").is(1, "done 1");
        faulty(UNKNOWN, "(let x x x)");
        faulty(UNKNOWN, "(set x 5)");
        faulty(UNKNOWN, "(set a 5)");
        faulty(BY_NOTHING, "(set x (div 1 0))");
        cost(2, "(set x 5)");
        cost(3, "(let x 5 x)");
        value(1, "(let x 1 (let x 2 3) x)");
    }

    private static void functionsDefined() {
        value(0, "(def ff () 5)");
        value(5, "(def ff () 5) (ff)");
        value(6, "(def ff () 5) (def ff () 6) (ff)");
        value(9, "(def ff (x y z) (add x (add y z))) (ff 2 3 4)");
        value(5, "(def i (i) i)(i 5)");
        value(5, "(def ff (a) a)(ff 5)");
        value(5, "(def ff (add) (add add 2))(ff 3)");
        cost(1, "(def ff () x)");
        faulty(MALFORMED, "(def a () 5)");
        faulty(MALFORMED, "(def h () 5)");
        for (String word : ("add sub mul min max div mod less same not and or if while do let set def take put give at"
                + " call buy fuel hour").split(" ")) {
            faulty(MALFORMED, "(def " + word + " () 5)");
        }
        faulty(MALFORMED, "(def 5 () 5)");
        faulty(MALFORMED, "(def (ff) () 5)");
        faulty(MALFORMED, "(def ff x 5)");
        faulty(MALFORMED, "(def ff 5 5)");
        faulty(MALFORMED, "(def ff (x x) 5)");
        faulty(MALFORMED, "(def ff (x y x) 5)");
        faulty(MALFORMED, "(def ff (y x x) 5)");
        faulty(MALFORMED, "(def ff (5) 5)");
        faulty(MALFORMED, "(def ff (x (y)) 5)");
        faulty(MALFORMED, "(def ff (w x y z) 5)");
        faulty(MALFORMED, "(def ff ())");
        faulty(MALFORMED, "(def ff () 5 6)");
        faulty(MALFORMED, "(def)");
        String seven = "(def i()1)(def j()2)(def k()3)(def l()4)(def m()5)(def n()6)(def o()7)";
        value(8, seven + "(def p()8)(p)");
        value(9, seven + "(def p()8)(def i()9)(i)");
        value(7, seven + "(def p()8)(o)");
        faulty(TOO_DEEP, seven + "(def p()8)(def q()9)").is(8, "done 1").is(9, "used 1");
        faulty(MALFORMED, seven + "(def p()8)(def q(x x)9)");
    }

    private static void functionsCalled() {
        faulty(UNKNOWN, "(ff)");
        faulty(UNKNOWN, "(a)");
        faulty(UNKNOWN, "(c 1)");
        cost(1, "(ff 1 2)");
        faulty(UNKNOWN, "(let ff 5 (ff))");
        faulty(MALFORMED, "(def ff (x) x)(ff)");
        faulty(MALFORMED, "(def ff (x) x)(ff 1 2)");
        faulty(MALFORMED, "(def ff () 1)(ff 1)");
        faulty(MALFORMED, "(def ff (x y z) 1)(ff 1 2 3 4)");
        cost(2, "(def ff (x) x)(ff 1 2)");
        cost(1 + 1 + 1 + 1 + 3, "(def ff (x y) (add x y))(ff 1 2)");
        // no names but its own
        faulty(UNKNOWN, "(def ff () x)(let x 5 (ff))");
        value(7, "(def ff () c)(let c 5 (ff))");
        faulty(UNKNOWN, "(def ff (x) (set y x))(let y 5 (ff 1))");
        value(5, "(def ff (x) (set x 9))(let x 5 (do (ff 1) x))");
        value(14, "(def ff (x) (set x 9))(let x 5 (add (ff 1) x))");
        // the values are valued among the names outside
        value(21, "(def ff (x y) (sub x y))(let x 1 (let y 22 (ff y x)))");
        value(3, "(def ff (x) (def gg () (add x 1)))(def ff (y) y)(ff 3)");
        // it is called as it is when its list begins to be valued
        value(1, "(def ff (x) 1)(ff (def ff (y) 2))");
        value(2, "(def ff (x) 1)(ff (def ff (y) 2))(ff 0)");
        value(6, "(def ff (x) (add x 1))(ff (do (def ff (x y) 9) 5))");
        value(24, "(def ff (n) (if n (mul n (ff (sub n 1))) 1))(ff 4)");
        value(3, "(def ff (x y z) (sub x (sub y z)))(ff 1 2 4)");
        faulty(MALFORMED, "(def ff (x) 1)(ff)(def ff () 2)");
        value(1, "(def ff () 1)(do (ff) (ff))");
    }

    private static void functionsByCall() {
        value(4, "(call 1)(ff 3)", "(def ff (x) (add x 1))");
        value(5, "(def ff (x) (add x 1))(call 1)", "(ff 4)");
        value(5, "(def ff (x) (add x 1))(call 1)(ff 4)", "(def ff (x) (sub x 1)) (def ff (x) (add x 1))");
        // a new run begins without functions
        Due due = ran("(def ff () 5)(ff)(i)").is(3, "state 1").is(2, "done 1");
        due.with("erase 0 3").text(0, "(ff)").is(3, "takeUp 1 99").is(UNKNOWN, "why 1").is(2, "done 1");
    }

    private static void malformed() {
        for (String text : new String[] {
            "()", "(5)", "((add) 1 2)", "(-1 2)", "(add)", "(add 1)", "(add 1 2 3)", "(sub 1)", "(mul 1 2 3)",
            "(min 1)", "(max 1)", "(div 1)", "(mod 1 2 3)", "(less 1)", "(same 1)", "(not)", "(not 1 2)", "(and 1)",
            "(and 0)", "(and 1 2 3)", "(or 1)", "(or 1 2 3)", "(if 1 2)", "(if 1 2 3 4)", "(while 0)", "(while)",
            "(do)", "(let x 5)", "(let)", "(let 5 5 5)", "(let (x) 5 5)", "(set x)", "(set 5 5)", "(set (x) 1)",
            "(set x 1 2)", "(take a)", "(take 5 5)", "(take i 5)", "(take aa 5)", "(take (a) 5)", "(take a 5 5)",
            "(put i 1)", "(put a)", "(put a 1 2)", "(give 1 a)", "(give 1 i 1)", "(give a 1 1)", "(give 1 a 1 1)",
            "(at 1 1)", "(at 1 1 1 1)", "(call)", "(call 1 2)", "(buy)", "(buy 1 2)", "(fuel 1)", "(hour 1)",
            "(let x x)", "(take x x)",
        }) {
            faulty(MALFORMED, text).is(1, "used 1").is(0, "done 1");
        }
        faulty(MALFORMED, "(add 1 (add 1))").is(3, "used 1");
        faulty(BY_NOTHING, "(add (div 1 0) (add 1))");
    }

    private static void takePutGive() {
        value(5, "(take a 5)").is(5, "stock 1 0").is(15, "stock -1 0");
        value(20, "(take a 21)").is(20, "stock 1 0").is(0, "stock -1 0");
        value(0, "(take b 5)").is(1, "moves");
        value(0, "(take a 0)").is(1, "moves");
        value(3, "(put c 3)").is(4, "stock 1 2").is(3, "stock -1 2");
        value(7, "(put c 8)").is(0, "stock 1 2");
        value(0, "(put a 8)").is(1, "moves");
        value(3, "(give 3 c 3)").is(4, "stock 1 2").is(3, "stock 3 2");
        value(7, "(give 0 c 9)").is(0, "stock 1 2").is(7, "stock 0 2");
        value(0, "(give 1 c 5)").is(7, "stock 1 2").is(1, "moves");
        value(0, "(give 0 a 5)").is(1, "moves");
        value(5, "(take h 5)").is(5, "stock 1 7");
        value(5, "(let a 9 (take a 5))");
        faulty(REFUSED, "(take a -1)");
        faulty(REFUSED, "(take b -1)");
        faulty(REFUSED, "(put c -1)");
        faulty(REFUSED, "(give 2 c -1)");
        faulty(REFUSED, "(give 1 c -1)");
        faulty(REFUSED, "(give 4 c 1)");
        faulty(REFUSED, "(give -1 c 1)");
        faulty(REFUSED, "(give 4 c 0)");
        cost(2, "(take a -1)");
        cost(3, "(give 4 c 1)");
        faulty(UNKNOWN, "(give x c (div 1 0))");
        faulty(BY_NOTHING, "(give 4 c (div 1 0))");
        faulty(BY_NOTHING, "(take a (div 1 0))");
        // what is moved is looked at behind valuing
        value(7, "(take a (do (put a (take a 13)) (take a 13) (add a 0)))");
        value(10, "(add (take a 4) (add (take a 6) 0))").is(10, "stockByMoves 1 0").is(10, "leftBy 1 0");
    }

    private static void atMakesOrders() {
        Due due = value(2, "(at 1 3 9)", "", "", "(take a 2)");
        due.is(3, "orders").is(0, "state 2").is(3, "hourOf 2").is(0, "used 2").is(1, "pass 1").is(1, "state 2");
        due.is(2, "stock 1 0").is(2, "used 2");
        value(3, "(at 100 7 1000)(at 1 0 1)").is(102, "hourOf 2").is(3, "hourOf 3");
        // company, script and budget are as told
        due = value(2, "(at 2 2 3)", "9", "1 2 3 4 5").is(0, "pass 1").is(1, "pass 1").is(2, "state 2").is(3, "done 2");
    }

    private static void atRefuses() {
        for (String text : new String[] {
            "(at 0 1 1)", "(at 101 1 1)", "(at -1 1 1)", "(at 1 -1 1)", "(at 1 8 1)", "(at 1 1 0)", "(at 1 1 1001)",
        }) {
            faulty(REFUSED, text).is(2, "orders").is(4, "used 1");
        }
        faulty(BY_NOTHING, "(at 0 9 (div 1 0))");
        faulty(UNKNOWN, "(at 0 x (div 1 0))");
        // with 60 orders none is made, but a number can be refused still
        Due due = new Due("at with 60 orders").text(0, "(at 9 9 9)").text(1, "(at 9 1 9)").fuel(0, 100);
        for (int i = 0; i < 58; i++) {
            due.is(i, "order 2 3 50 1");
        }
        due.is(58, "order 0 0 1 9").is(59, "order 0 1 1 9").is(2, "pass 1");
        due.is(3, "state 58").is(REFUSED, "why 58").is(1, "state 59").is(-1, "value 59").is(60, "orders");
    }

    private static void callsOfScripts() {
        value(3, "(call 1)", "1 2 3");
        value(0, "(call 1)");
        value(0, "(call 1)", "   ");
        value(6, "(call (add 1 1))", "5", "6");
        value(0, "(call 7)");
        faulty(REFUSED, "(call -1)");
        faulty(REFUSED, "(call 8)");
        faulty(REFUSED, "(call 1)", "(add 1 2");
        cost(2, "(call 8)");
        cost(4, "(call 1)", "5 6");
        faulty(UNKNOWN, "(let x 5 (call 1))", "x");
        value(7, "(let c 5 (call 1))", "c");
        faulty(UNKNOWN, "(let x 5 (call 1))", "(set x 3)");
        value(5, "(let x 5 (do (call 1) x))", "(let x 9 (set x 8))");
        faulty(UNKNOWN, "(def ff (x) (call 1))(ff 3)", "x");
        // all that a called script moved is undone, if it goes wrong behind that
        faulty(UNKNOWN, "(call 1)", "(take a 5) x").is(0, "stock 1 0").is(1, "moves");
        faulty(UNKNOWN, "5 (call (call x))").is(1, "done 1");
    }

    private static void buys() {
        value(20, "(buy 2)").is(48, "rations 1").is(998 - 2 + 20, "fuel 1");
        value(500, "(buy 51)").is(0, "rations 1");
        value(500, "(buy 50)").is(0, "rations 1");
        value(0, "(buy 0)").is(50, "rations 1");
        faulty(REFUSED, "(buy -1)").is(50, "rations 1");
        value(997, "(fuel)");
        value(1014, "(do (buy 2) (fuel))").is(1014, "fuel 1");
        value(2, "(hour)");
        faulty(BY_NOTHING, "(buy (div 1 0))").is(50, "rations 1");
        // debts are paid back of it, and count as bought
        Due due = new Due("buy pays debts").text(0, "(buy 2)").fuel(0, 10).with("setCredit 0 3 9", "giveRations 3 5");
        due.with("setTariff 3", "order 3 0 1 9", "pass 1").is(1, "state 0").is(6, "value 0").is(0, "debt 3 0");
        due.is(4, "fuel 3").is(10, "fuel 0").is(3, "rations 3");
        // what was bought stays bought when the expression goes wrong
        faulty(UNKNOWN, "(do (buy 2) x)").is(48, "rations 1").is(998 - 4 + 20, "fuel 1");
    }

    private static void depth() {
        value(5, "(do ".repeat(20) + "5" + ")".repeat(20));
        // (ff 13) stands at 0, the lists of if and ff in turn at 1 to 27, and the last n at 28
        String down = "(def ff (n) (if n (ff (sub n 1)) 0))";
        value(0, down + "(ff 13)");
        faulty(TOO_DEEP, down + "(ff 14)");
        // as many names as that are bound at once
        value(78, "(def ff(n y z)(if n(ff(sub n 1)(add y 1)(add z y))z))(ff 13 0 0)");
    }

    private static void depthOfCalls() {
        String nine = "(do ".repeat(9);
        String ends = ")".repeat(9);
        // the 5 stands in 18 + 2 + 9 others, and then in one more
        value(5, nine + "(call 1)" + ends, nine + "(call 2)" + ends, nine + "5" + ends).is(32, "used 1");
        faulty(TOO_DEEP, nine + "(call 1)" + ends, nine + "(call 2)" + ends, nine + "(do 5)" + ends).is(33, "used 1");
        // what is too deep is so behind its fuel, whatever it is
        faulty(TOO_DEEP, nine + "(call 1)" + ends, nine + "(call 2)" + ends, nine + "(do ())" + ends).is(33, "used 1");
        // the thirtieth list takes its fuel, and so does its number
        faulty(TOO_DEEP, "(call 0)").is(60, "used 1");
        // that others were as deep ahead of it does not matter
        value(6, nine + "5" + ends + "(call 1)", nine + "5" + ends + nine + "6" + ends);
    }

    private static void order() {
        value(1, "(let x 1 (sub (set x 3) (set x 2)))");
        value(2, "(let x 1 (do (sub (set x 3) (set x 2)) x))");
        faulty(UNKNOWN, "(add x (div 1 0))");
        faulty(BY_NOTHING, "(add (div 1 0) x)");
        value(27, "(def ff (x y z) (add x (mul y z)))(let n 1 (ff (set n 2) (set n (add n 3)) n))");
    }
}
