import java.util.Arrays;

/** Notes every answer that is not the one that is due. */
final class Due {
    private final String name;
    private int asked;
    private int wrong;

    Due(String name) {
        this.name = name;
    }

    void is(String what, long got, long due) {
        asked++;
        if (got != due) {
            wrong++;
            System.out.println(name + ": " + what + " answered " + got + ", due is " + due);
        }
    }

    void is(String what, double got, double due) {
        asked++;
        if (Double.compare(got, due) != 0) {
            wrong++;
            System.out.println(name + ": " + what + " answered " + got + ", due is " + due);
        }
    }

    void holds(String what, boolean isSo) {
        is(what, isSo ? 1 : 0, 1);
    }

    /** Makes a call that must answer so: a number, or throws.Name, which may change nothing. */
    void call(MarlStore x, String due, String call, int... arguments) {
        boolean isThrown = due.startsWith("throws.");
        long before = isThrown ? x.digest() : 0;
        String got = Calls.of(x, call, arguments);
        asked++;
        if (!got.equals(due)) {
            wrong++;
            System.out.println(name + ": " + call + Arrays.toString(arguments) + " answered " + got
                    + ", due is " + due);
        }
        if (isThrown) {
            holds(call + Arrays.toString(arguments) + " throws and changes nothing",
                    x.digest() == before);
        }
    }

    void bounds(MarlStore x, String call, int... arguments) {
        call(x, "throws.IndexOutOfBoundsException", call, arguments);
    }

    void argument(MarlStore x, String call, int... arguments) {
        call(x, "throws.IllegalArgumentException", call, arguments);
    }

    void state(MarlStore x, String call, int... arguments) {
        call(x, "throws.IllegalStateException", call, arguments);
    }

    void end() {
        System.out.println(name + ": " + asked + " answers, " + wrong + " not as due");
        if (wrong > 0 || asked == 0) {
            System.exit(1);
        }
    }
}
