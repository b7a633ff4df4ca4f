import java.lang.reflect.Constructor;
import java.lang.reflect.Field;
import java.lang.reflect.Method;
import java.lang.reflect.Modifier;
import java.util.ArrayList;
import java.util.Arrays;
import java.util.Collections;
import java.util.List;

/** Promise 1, the constants, and that the public face is the document's and no more. */
public final class FaceTest {
    private static final String[] METHODS = {
        "int type(int, int) IllegalArgumentException IllegalStateException",
        "int erase(int, int) IllegalArgumentException",
        "int length(int) IllegalArgumentException",
        "int sign(int, int) IllegalArgumentException IndexOutOfBoundsException",
        "int fault(int) IllegalArgumentException",
        "int expressions(int) IllegalArgumentException IllegalStateException",
        "int supply(int, int) IllegalArgumentException",
        "int giveRations(int, int) IllegalArgumentException",
        "int setTariff(int) IllegalArgumentException",
        "int buy(int, int) IllegalArgumentException IllegalStateException",
        "boolean setBuying(int, boolean) IllegalArgumentException",
        "int setCredit(int, int, int) IllegalArgumentException",
        "int payBack(int, int, int) IllegalArgumentException IllegalStateException",
        "int stock(int, int) IllegalArgumentException",
        "int stockByMoves(int, int) IllegalArgumentException",
        "int fuel(int) IllegalArgumentException",
        "int rations(int) IllegalArgumentException",
        "int debt(int, int) IllegalArgumentException",
        "int order(int, int, int, int) IllegalArgumentException IllegalStateException",
        "int pass(int) IllegalArgumentException IllegalStateException",
        "int hour()",
        "int takeUp(int, int) IndexOutOfBoundsException IllegalArgumentException IllegalStateException",
        "int orders()",
        "int state(int) IndexOutOfBoundsException",
        "int why(int) IndexOutOfBoundsException",
        "int done(int) IndexOutOfBoundsException",
        "int value(int) IndexOutOfBoundsException",
        "int used(int) IndexOutOfBoundsException",
        "int hourOf(int) IndexOutOfBoundsException",
        "int leftBy(int, int) IndexOutOfBoundsException IllegalArgumentException",
        "int moves()",
        "int movedFrom(int) IndexOutOfBoundsException",
        "int movedTo(int) IndexOutOfBoundsException",
        "int movedGood(int) IndexOutOfBoundsException",
        "int movedAmount(int) IndexOutOfBoundsException",
        "int movedBy(int) IndexOutOfBoundsException",
    };
    private static final String[] CONSTANTS = {
        "NONE -1", "WAITING 0", "DONE 1", "DRY 2", "FAULTY 3", "UNDONE 4",
        "BY_TEXT 1", "TOO_DEEP 2", "UNKNOWN 3", "MALFORMED 4", "BY_NOTHING 5", "REFUSED 6",
    };

    public static void main(String[] args) throws IllegalAccessException {
        same("methods", methods(), METHODS);
        same("constants", constants(), CONSTANTS);
        onlyOneConstructor();
        privateNamesDiffer();
        promise1NewObject();
        Due.end();
    }

    private static void promise1NewObject() {
        Due due = new Due("new object");
        due.is(0, "hour").is(0, "orders").is(0, "moves");
        for (int script = 0; script < 8; script++) {
            due.is(0, "length " + script).is(-1, "fault " + script).is(0, "expressions " + script);
        }
        for (int company = 0; company < 4; company++) {
            due.is(0, "fuel " + company).is(0, "rations " + company).is(0, "setBuying " + company + " 0");
            for (int other = 0; other < 4; other++) {
                due.is(0, "debt " + company + " " + other);
                due.is(company == other ? Due.ARGUMENT : "0", "setCredit " + company + " " + other + " 0");
            }
        }
        for (int owner = -1; owner < 4; owner++) {
            for (int good = 0; good < 8; good++) {
                due.is(0, "stock " + owner + " " + good).is(0, "stockByMoves " + owner + " " + good);
            }
        }
        due.is(10, "setTariff 10");
    }

    private static void onlyOneConstructor() {
        Constructor<?>[] all = RationLisp.class.getDeclaredConstructors();
        if (all.length != 1 || all[0].getParameterCount() != 0 || !Modifier.isPublic(all[0].getModifiers())) {
            Due.tell("constructors: " + Arrays.toString(all));
        }
        if (!Modifier.isFinal(RationLisp.class.getModifiers())) {
            Due.tell("the class is not final");
        }
    }

    private static List<String> methods() {
        List<String> found = new ArrayList<>();
        for (Method method : RationLisp.class.getDeclaredMethods()) {
            if (!Modifier.isPrivate(method.getModifiers()) && !method.isSynthetic()) {
                found.add(told(method));
            }
        }
        return found;
    }

    private static String told(Method method) {
        StringBuilder line = new StringBuilder();
        line.append(method.getReturnType()).append(' ').append(method.getName()).append('(');
        for (int i = 0; i < method.getParameterCount(); i++) {
            line.append(i == 0 ? "" : ", ").append(method.getParameterTypes()[i]);
        }
        line.append(')');
        for (Class<?> thrown : method.getExceptionTypes()) {
            line.append(' ').append(thrown.getSimpleName());
        }
        return line.toString();
    }

    private static List<String> constants() throws IllegalAccessException {
        List<String> found = new ArrayList<>();
        for (Field field : RationLisp.class.getDeclaredFields()) {
            if (!Modifier.isPrivate(field.getModifiers()) && !field.isSynthetic()) {
                boolean isConstant = Modifier.isStatic(field.getModifiers()) && Modifier.isFinal(field.getModifiers());
                found.add(isConstant ? field.getName() + " " + field.getInt(null) : field.toString());
            }
        }
        return found;
    }

    /** No private method, of the class or of one inside it, bears the name of a public one. */
    private static void privateNamesDiffer() {
        List<String> names = new ArrayList<>();
        for (Method method : RationLisp.class.getDeclaredMethods()) {
            if (Modifier.isPublic(method.getModifiers())) {
                names.add(method.getName());
            }
        }
        List<Class<?>> classes = new ArrayList<>(Arrays.asList(RationLisp.class.getDeclaredClasses()));
        classes.add(RationLisp.class);
        for (Class<?> one : classes) {
            for (Method method : one.getDeclaredMethods()) {
                boolean isFace = one == RationLisp.class && Modifier.isPublic(method.getModifiers());
                if (!isFace && names.contains(method.getName())) {
                    Due.tell(one.getName() + " has a method of the name " + method.getName());
                }
            }
        }
    }

    private static void same(String what, List<String> found, String[] wanted) {
        List<String> due = new ArrayList<>(Arrays.asList(wanted));
        Collections.sort(due);
        Collections.sort(found);
        if (!found.equals(due)) {
            Due.tell(what + ": " + found + ", due is " + due);
        }
    }
}
