/** One new object of the program in a test, and the answers that are due; wrong ones are counted over all. */
final class Due {
    static final String ARGUMENT = "throws.IllegalArgumentException";
    static final String STATE = "throws.IllegalStateException";
    static final String INDEX = "throws.IndexOutOfBoundsException";

    private static int wrong = 0;

    private final String name;
    private final Calls calls = new Calls(new RationLisp());

    Due(String name) {
        this.name = name;
    }

    Due is(int due, String call) {
        return is(String.valueOf(due), call);
    }

    Due is(String due, String call) {
        String answer = calls.answer(call);
        if (!answer.equals(due)) {
            tell(name + ": " + call + " answered " + answer + ", due is " + due);
        }
        return this;
    }

    /** Makes calls the answers of which other tests look at. */
    Due with(String... all) {
        for (String call : all) {
            String answer = calls.answer(call);
            if (answer.startsWith("throws.")) {
                tell(name + ": " + call + " answered " + answer);
            }
        }
        return this;
    }

    /** Makes a call with right arguments; the state may forbid it. */
    Due isTaken(String call) {
        String answer = calls.answer(call);
        if (answer.startsWith("throws.") && !answer.equals(STATE)) {
            tell(name + ": " + call + " answered " + answer);
        }
        return this;
    }

    Due text(int script, String text) {
        for (int i = 0; i < text.length(); i++) {
            with("type " + script + " " + (int) text.charAt(i));
        }
        return this;
    }

    /** Gives a company fuel, for rations at the first tariff. */
    Due fuel(int company, int fuel) {
        int rations = (fuel + 9) / 10;
        return with("giveRations " + company + " " + rations, "buy " + company + " " + rations);
    }

    static void tell(String line) {
        wrong++;
        System.out.println(line);
    }

    static void end() {
        if (wrong != 0) {
            System.out.println(wrong + " answers are not as due");
            System.exit(1);
        }
    }
}
