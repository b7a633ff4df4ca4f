/** The sentences of the document's part "Texts" that name a bound, one by one, each looked at on both sides. */
public final class BoundsOfTextsTest {
    private static String sentence;

    public static void main(String[] args) {
        aTextHas120Signs();
        blanksAsManyAsOneLikes();
        anExpressionIs();
        aNumberIs1To6Digits();
        aNameIs1To6Letters();
        twoHaveABlankBetween();
        minusHasABlankOrABracketAhead();
        twentyListsAreOpen();
        theFirstSignThatCannotStand();
        theTextEndsInTheMidst();
        otherwiseThereIsNone();
        erasedAreAllIfItHasNotSoMany();
        thereIsNoSuchSign();
        Due.end();
    }

    /** Looks at the fault of a text, and, if there is none, at how many expressions it has. */
    private static void text(String text, int fault, int expressions) {
        Due due = new Due(sentence + " '" + text + "'").text(3, text).is(text.length(), "length 3");
        due.is(fault, "fault 3").is(fault == -1 ? String.valueOf(expressions) : Due.STATE, "expressions 3");
    }

    private static void good(String text, int expressions) {
        text(text, -1, expressions);
    }

    private static void bad(String text, int fault) {
        text(text, fault, 0);
    }

    private static void aTextHas120Signs() {
        Due due = new Due("A script is a text of at most 120 signs.");
        for (int script = 0; script < 8; script += 7) {
            for (int length = 1; length <= 120; length++) {
                due.is(length, "type " + script + " 41");
            }
            due.is(Due.STATE, "type " + script + " 41").is(120, "length " + script).is(41, "sign " + script + " 119");
            due.is(119, "erase " + script + " 1").is(120, "type " + script + " 40").is(40, "sign " + script + " 119");
            due.is(Due.STATE, "type " + script + " 41").is(Due.INDEX, "sign " + script + " 120");
        }
        due.is(0, "length 1").is(0, "length 6").is(0, "erase 0 120").is(1, "type 0 41");
    }

    private static void blanksAsManyAsOneLikes() {
        sentence = "with blanks ahead, between and behind them, as many as one likes";
        good("", 0);
        good(" ", 0);
        good(" ".repeat(120), 0);
        good(" ".repeat(60) + "a" + " ".repeat(59), 1);
        good("(" + " ".repeat(118) + ")", 1);
        good("a" + " ".repeat(118) + "b", 2);
        new Due(sentence).text(0, "   (  add   1    2  )   ").fuel(0, 10).with("order 0 0 1 9", "pass 1")
            .is(1, "done 0").is(3, "value 0").is(3, "used 0");
    }

    private static void anExpressionIs() {
        sentence = "An expression is a number, a name, or a list.";
        good("7", 1);
        good("x", 1);
        good("()", 1);
        good("(())", 1);
        good("(x 7 ())", 1);
        good("7 x()", 3);
    }

    private static void aNumberIs1To6Digits() {
        sentence = "A number is 1 to 6 digits, which may have one \"-\" ahead.";
        good("0", 1);
        good("9", 1);
        good("-9", 1);
        good("123456", 1);
        good("-123456", 1);
        good("000000", 1);
        bad("1234567", 6);
        bad("-1234567", 7);
        bad("0000000", 6);
        bad("-", 1);
        bad("--1", 1);
        bad("-)", 1);
        bad("(-)", 2);
        bad("1-", 1);
        value("000009", 9);
        value("999999", 999999);
        value("-999999", -999999);
        value("-000000", 0);
        value("-000001", -1);
    }

    private static void value(String text, int value) {
        new Due(sentence + " '" + text + "'").text(0, text).fuel(0, 10).with("order 0 0 1 9", "pass 1")
            .is(1, "state 0").is(value, "value 0");
    }

    private static void aNameIs1To6Letters() {
        sentence = "A name is 1 to 6 letters.";
        good("a", 1);
        good("z", 1);
        good("azazaz", 1);
        good("zzzzzz", 1);
        bad("zzzzzzz", 6);
        bad("(abcdefg", 7);
        // names of six letters that differ in the last, or in the first one only, are unlike
        value("(let abcdef 1(let abcdeg 2(let bbcdef 3 abcdef)))", 1);
        value("(let zzzzzz 1(let zzzzz 2(let zzzzzy 3 zzzzzz)))", 1);
    }

    private static void twoHaveABlankBetween() {
        sentence = "Two numbers or names that follow one another have at least one blank between them.";
        good("1 a", 2);
        good("a 1", 2);
        good("a b", 2);
        good("1  2", 2);
        good("a()1()b", 5);
        good("(1)2(a)b", 4);
        bad("1a", 1);
        bad("a1", 1);
        bad("abcdef1", 6);
        bad("123456a", 6);
        bad("-1a", 2);
    }

    private static void minusHasABlankOrABracketAhead() {
        sentence = "A number that begins with \"-\" has a blank or a bracket ahead of it, or nothing.";
        good("-1", 1);
        good(" -1", 1);
        good("1 -1", 2);
        good("(-1)", 1);
        good("()-1", 2);
        bad("1-1", 1);
        bad("a-1", 1);
        bad("-1-1", 2);
        bad("123456-1", 6);
    }

    private static void twentyListsAreOpen() {
        sentence = "At most 20 lists are open at a place.";
        good("(".repeat(19) + ")".repeat(19), 1);
        good("(".repeat(20) + ")".repeat(20), 1);
        bad("(".repeat(21) + ")".repeat(21), 20);
        good("(".repeat(20) + "a 1" + ")".repeat(20), 1);
        good("(".repeat(20) + ")()" + ")".repeat(19), 1);
        bad("(".repeat(20) + ")()(()", 24);
        good("()".repeat(60), 60);
    }

    private static void theFirstSignThatCannotStand() {
        sentence = "The fault of a text is the index of the first sign that cannot stand at its place.";
        bad(")", 0);
        bad("())", 2);
        bad(")1a", 0);
        bad("1a)", 1);
        bad("a ) (", 2);
        bad("(a b1 c))", 4);
        bad("- 1", 1);
        bad("-(1)", 1);
        bad(" ".repeat(119) + ")", 119);
    }

    private static void theTextEndsInTheMidst() {
        sentence = "The text ends while a list is open, or behind a \"-\" without digits.";
        bad("(", 1);
        bad("()(", 3);
        bad("((a) ", 5);
        bad("(a", 2);
        bad(" -", 2);
        bad("a -", 3);
        bad("(-", 2);
        bad(" ".repeat(119) + "(", 120);
        bad(" ".repeat(119) + "-", 120);
    }

    private static void otherwiseThereIsNone() {
        sentence = "Otherwise there is none.";
        good("(add 1 -2) x (y)-3", 4);
        Due due = new Due(sentence);
        for (int script = 0; script < 8; script++) {
            due.is(-1, "fault " + script).is(1, "type " + script + " 40").is(1, "fault " + script);
            due.is(2, "type " + script + " 41").is(-1, "fault " + script).is(1, "expressions " + script);
            due.is(3, "type " + script + " 41").is(2, "fault " + script).is(4, "type " + script + " 40");
            due.is(2, "fault " + script).is(2, "erase " + script + " 2").is(-1, "fault " + script);
        }
    }

    private static void erasedAreAllIfItHasNotSoMany() {
        Due due = new Due("Takes the last signs of a script away: 1 or more; all, if it has not so many.");
        due.text(0, "abc").text(1, "xyz").is(2, "erase 0 1").is(98, "sign 0 1").is(0, "erase 0 2");
        due.is(0, "erase 0 1").is(0, "erase 1 4").is(0, "length 1").text(1, "uvw").is(0, "erase 1 3");
        due.text(1, "(").is(0, "erase 1 2147483647").is(-1, "fault 1").is(0, "expressions 1");
        due.is(Due.ARGUMENT, "erase 1 0");
    }

    private static void thereIsNoSuchSign() {
        Due due = new Due("Throws IndexOutOfBoundsException if there is no such sign.").is(Due.INDEX, "sign 0 0");
        due.text(0, "ab").is(97, "sign 0 0").is(98, "sign 0 1").is(Due.INDEX, "sign 0 2").is(Due.INDEX, "sign 0 -1");
        due.is(1, "erase 0 1").is(Due.INDEX, "sign 0 1").is(Due.INDEX, "sign 1 0").is(Due.INDEX, "sign 0 119");
    }
}
