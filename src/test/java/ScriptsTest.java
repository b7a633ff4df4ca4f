/** Promises 2 to 7: typing and erasing, and the faults and expressions of texts. */
public final class ScriptsTest {
    public static void main(String[] args) {
        promise2Type();
        promise3Erase();
        promise4Length();
        promise5Sign();
        promise6FaultOfWords();
        promise6FaultOfLists();
        promise6FaultAfterChanges();
        promise7Expressions();
        Due.end();
    }

    private static void promise2Type() {
        Due due = new Due("type");
        for (int sign = 0; sign < 130; sign++) {
            boolean isSign = " ()-0123456789abcdefghijklmnopqrstuvwxyz".indexOf(sign) >= 0;
            due.is(isSign ? "1" : Due.ARGUMENT, "type 7 " + sign);
            if (isSign) {
                due.is(0, "erase 7 1");
            }
        }
        due.is(Due.ARGUMENT, "type -1 32").is(Due.ARGUMENT, "type 8 32").is(0, "length 0");
        due.is(Due.ARGUMENT, "type 0 -1").is(Due.ARGUMENT, "type 0 " + (65536 + 97));
        for (int i = 1; i <= 120; i++) {
            due.is(i, "type 0 97");
        }
        due.is(Due.STATE, "type 0 97").is(Due.ARGUMENT, "type 0 33").is(Due.ARGUMENT, "type 8 97");
        due.is(120, "length 0").is(1, "type 1 41").is(119, "erase 0 1").is(120, "type 0 32").is(32, "sign 0 119");
    }

    private static void promise3Erase() {
        Due due = new Due("erase").text(2, "abcdef").text(3, "gh");
        due.is(4, "erase 2 2").is(100, "sign 2 3").is(Due.INDEX, "sign 2 4");
        due.is(Due.ARGUMENT, "erase 2 0").is(Due.ARGUMENT, "erase 2 -1").is(Due.ARGUMENT, "erase -1 1");
        due.is(Due.ARGUMENT, "erase 8 1").is(4, "length 2").is(2, "length 3");
        due.is(0, "erase 2 4").is(0, "erase 2 1").is(1, "type 2 122").is(0, "erase 2 " + Integer.MAX_VALUE);
        due.is(2, "length 3").is(0, "erase 3 3").is(Due.ARGUMENT, "erase 2 " + Integer.MIN_VALUE);
    }

    private static void promise4Length() {
        Due due = new Due("length").text(7, "(a)");
        due.is(3, "length 7").is(0, "length 6").is(Due.ARGUMENT, "length 8").is(Due.ARGUMENT, "length -1");
    }

    private static void promise5Sign() {
        Due due = new Due("sign").text(7, "(z-9 )").text(0, "b");
        due.is(40, "sign 7 0").is(122, "sign 7 1").is(45, "sign 7 2").is(57, "sign 7 3");
        due.is(32, "sign 7 4").is(41, "sign 7 5").is(98, "sign 0 0");
        due.is(Due.INDEX, "sign 7 6").is(Due.INDEX, "sign 7 -1").is(Due.INDEX, "sign 0 1").is(Due.INDEX, "sign 1 0");
        due.is(Due.ARGUMENT, "sign 8 0").is(Due.ARGUMENT, "sign -1 0").is(Due.ARGUMENT, "sign 8 -1");
    }

    private static void fault(int due, String text) {
        new Due("fault of '" + text + "'").text(5, text).is(due, "fault 5").is(-1, "fault 4");
    }

    private static void promise6FaultOfWords() {
        fault(-1, "");
        fault(-1, "   ");
        fault(-1, "123456 -123456 abcdef");
        fault(6, "1234567");
        fault(7, "-1234567");
        fault(6, "abcdefg");
        fault(2, "12a");
        fault(2, "ab1");
        fault(1, "5-");
        fault(1, "a-5");
        fault(1, "--5");
        fault(1, "- 5");
        fault(1, "-(");
        fault(2, "(-)");
        fault(1, "-a");
        fault(1, "-");
        fault(5, "abc -");
        fault(2, "(-");
        fault(-1, "-0 -5");
        fault(-1, "a b");
        new Due("fault").is(Due.ARGUMENT, "fault 8").is(Due.ARGUMENT, "fault -1");
    }

    private static void promise6FaultOfLists() {
        fault(-1, "()");
        fault(-1, "a(b)c(1)2()-3(-4)-5");
        fault(0, ")");
        fault(4, "(a) )");
        fault(1, "(");
        fault(5, "((a) ");
        fault(20, "(".repeat(20));
        fault(20, "(".repeat(21));
        fault(-1, "(".repeat(20) + ")".repeat(20));
        fault(-1, "(".repeat(20) + "()".substring(1) + "(a)" + ")".repeat(19));
        fault(-1, "(".repeat(20) + ")".repeat(20) + "(".repeat(20) + ")".repeat(20));
        fault(20, "(".repeat(21) + ")".repeat(21));
        fault(22, "(".repeat(20) + "a (a");
        fault(120, " ".repeat(119) + "(");
        fault(-1, "a ".repeat(60));
    }

    private static void promise6FaultAfterChanges() {
        Due due = new Due("fault after changes").text(1, "(ab").is(3, "fault 1");
        due.with("type 1 41").is(-1, "fault 1").with("type 1 41").is(4, "fault 1");
        due.with("type 1 40").is(4, "fault 1").with("erase 1 2").is(-1, "fault 1").is(1, "expressions 1");
        due.text(0, "(a)b").is(2, "expressions 0").is(1, "expressions 1").is(-1, "fault 0");
        due.with("erase 1 4").is(-1, "fault 1").is(0, "expressions 1").is(2, "expressions 0");
    }

    private static void expressions(int due, String text) {
        new Due("expressions of '" + text + "'").text(7, text).is(due, "expressions 7");
    }

    private static void promise7Expressions() {
        expressions(0, "");
        expressions(0, "  ");
        expressions(1, "a");
        expressions(1, " (a (b c) ()) ");
        expressions(9, "a(b)c(1)2()-3(-4)-5");
        expressions(60, "a ".repeat(60));
        expressions(60, "()".repeat(60));
        expressions(2, "(((a)b)(c))((((d))))");
        Due due = new Due("expressions").text(0, "(a)(").is(Due.STATE, "expressions 0");
        due.with("type 0 41").is(2, "expressions 0").with("type 0 45").is(Due.STATE, "expressions 0");
        due.with("type 0 41").is(Due.STATE, "expressions 0");
        due.is(Due.ARGUMENT, "expressions 8").is(Due.ARGUMENT, "expressions -1");
    }
}
