import java.util.ArrayList;
import java.util.Arrays;
import java.util.List;

/** The arguments that the document allows, call by call, and calls with arguments that it does not allow. */
final class Ranges {
    /** Each call with the kinds of its arguments. */
    static final String[] CALLS = {
        "type script sign", "erase script many", "length script", "sign script index", "fault script",
        "expressions script", "supply good thousand", "giveRations company thousand", "setTariff tariff",
        "buy company many", "setBuying company flag", "setCredit company other credit", "payBack company other many",
        "stock owner good", "stockByMoves owner good", "fuel company", "rations company", "debt company other",
        "order company script hundred thousand", "pass hundred", "takeUp number thousand", "state number", "why number",
        "done number", "value number", "used number", "hourOf number", "leftBy number good", "movedFrom number",
        "movedTo number", "movedGood number", "movedAmount number", "movedBy number",
    };

    private Ranges() {
    }

    /** Returns the bounds of a kind, and what stands between them if that is not all. */
    static int[] right(String kind) {
        switch (kind) {
            case "script":
            case "good":
                return new int[] {0, 7};
            case "sign":
                return new int[] {' ', '(', ')', '-', '0', '9', 'a', 'z'};
            case "company":
                return new int[] {0, 2};
            case "other":
                return new int[] {1, 3};
            case "owner":
                return new int[] {-1, 0, 3};
            case "tariff":
                return new int[] {0, 100};
            case "credit":
                return new int[] {0, 1000};
            case "thousand":
                return new int[] {1, 1000};
            case "hundred":
                return new int[] {1, 100};
            case "many":
                return new int[] {1, Integer.MAX_VALUE};
            case "flag":
                return new int[] {0, 1};
            default:
                return new int[] {0};
        }
    }

    /** Returns numbers beside the bounds, and such as would pass if they were cut to 8 or 16 bits. */
    static int[] wrong(String kind) {
        switch (kind) {
            case "script":
            case "good":
                return new int[] {-1, 8, 256, -65536, Integer.MIN_VALUE, Integer.MAX_VALUE};
            case "sign":
                return new int[] {
                    0, -1, 31, 33, 39, 42, 44, 46, 47, 58, 96, 123, 65, 90, 10, 95, 256 + 32, 65536 + 97,
                    Integer.MIN_VALUE, Integer.MAX_VALUE,
                };
            case "company":
            case "other":
                return new int[] {-1, 4, 257, 65536 + 1, Integer.MIN_VALUE, Integer.MAX_VALUE};
            case "owner":
                return new int[] {-2, 4, 255, 65535, Integer.MIN_VALUE, Integer.MAX_VALUE};
            case "tariff":
                return new int[] {-1, 101, 65536, Integer.MIN_VALUE, Integer.MAX_VALUE};
            case "credit":
                return new int[] {-1, 1001, 65536, Integer.MIN_VALUE, Integer.MAX_VALUE};
            case "thousand":
                return new int[] {0, -1, 1001, 65537, Integer.MIN_VALUE, Integer.MAX_VALUE};
            case "hundred":
                return new int[] {0, -1, 101, 257, Integer.MIN_VALUE, Integer.MAX_VALUE};
            case "many":
                return new int[] {0, -1, Integer.MIN_VALUE};
            case "flag":
                return new int[] {};
            default:
                return new int[] {-1, 3000, 65536, Integer.MIN_VALUE, Integer.MAX_VALUE};
        }
    }

    /** Returns whether a wrong number of a kind is answered by IndexOutOfBoundsException. */
    private static boolean isIndex(String kind) {
        return kind.equals("number") || kind.equals("index");
    }

    /** Returns what is due for a call of which some arguments are wrong; the text of none if none is. */
    static String due(String told, boolean[] areWrong, String none) {
        String[] kinds = told.split(" ");
        boolean isIndexWrong = false;
        boolean isOtherWrong = false;
        for (int i = 1; i < kinds.length; i++) {
            isIndexWrong |= areWrong[i] && isIndex(kinds[i]);
            isOtherWrong |= areWrong[i] && !isIndex(kinds[i]);
        }
        boolean isIndexListedFirst = !told.startsWith("sign ");
        if (isIndexWrong && (isIndexListedFirst || !isOtherWrong)) {
            return Due.INDEX;
        }
        return isOtherWrong ? Due.ARGUMENT : none;
    }

    /** Returns all calls of a kind in which the arguments of which that is told are wrong, the others right. */
    static List<String> calls(String told, boolean[] areWrong) {
        String[] kinds = told.split(" ");
        List<String> calls = new ArrayList<>(Arrays.asList(kinds[0]));
        for (int i = 1; i < kinds.length; i++) {
            List<String> longer = new ArrayList<>();
            for (String call : calls) {
                for (int number : areWrong[i] ? wrong(kinds[i]) : right(kinds[i])) {
                    longer.add(call + " " + number);
                }
            }
            calls = longer;
        }
        return calls;
    }
}
