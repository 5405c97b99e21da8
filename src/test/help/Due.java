import java.util.Arrays;

/** Notes every answer that is not the one that is due. */
final class Due {
    private final String name;
    private String quoted = "";
    private int sentences;
    private int askedBefore;
    private int asked;
    private int wrong;

    Due(String name) {
        this.name = name;
    }

    /** What is asked from here on tests these words of a promise, or of a term ("T1" to "T5"). */
    void sentence(String where, String words) {
        closeSentence();
        sentences++;
        askedBefore = asked;
        quoted = " [" + where + ": " + words + "]";
    }

    private void closeSentence() {
        if (sentences > 0 && asked == askedBefore) {
            tell("nothing was asked");
        }
    }

    private void tell(String fault) {
        wrong++;
        System.out.println(name + quoted + ": " + fault);
    }

    void is(String what, long got, long due) {
        asked++;
        if (got != due) {
            tell(what + " answered " + got + ", due is " + due);
        }
    }

    void is(String what, double got, double due) {
        asked++;
        if (Double.compare(got, due) != 0) {
            tell(what + " answered " + got + ", due is " + due);
        }
    }

    void is(String what, String got, String due) {
        asked++;
        if (!got.equals(due)) {
            tell(what + " is " + got + ", due is " + due);
        }
    }

    void holds(String what, boolean isSo) {
        is(what, isSo ? 1 : 0, 1);
    }

    /** What a DOCUMENT must be, told as Build tells it; the POINTER is at the whole of it then. */
    void reads(MarlStore x, int document, String due) {
        is("document " + document, Build.read(x, document), due);
    }

    /** Makes a call that must answer so: a number, or throws.Name, which may change nothing. */
    void call(MarlStore x, String due, String call, int... arguments) {
        boolean isThrown = due.startsWith("throws.");
        long before = isThrown ? x.digest() : 0;
        String got = Calls.of(x, call, arguments);
        asked++;
        if (!got.equals(due)) {
            tell(call + Arrays.toString(arguments) + " answered " + got + ", due is " + due);
        }
        if (isThrown) {
            holds(call + Arrays.toString(arguments) + " throws and changes nothing",
                    x.digest() == before);
        }
    }

    void call(MarlStore x, long due, String call, int... arguments) {
        call(x, Long.toString(due), call, arguments);
    }

    void bounds(MarlStore x, String call, int... arguments) {
        call(x, "throws.IndexOutOfBoundsException", call, arguments);
    }

    void argument(MarlStore x, String call, int... arguments) {
        call(x, "throws.IllegalArgumentException", call, arguments);
    }

    void state(MarlStore x, String call, int... arguments) {
        call(x, "throws.IllegalStateException", call, arguments);
    }

    void end() {
        closeSentence();
        System.out.println(name + ": " + (sentences > 0 ? sentences + " sentences, " : "") + asked
                + " answers, " + wrong + " not as due");
        if (wrong > 0 || asked == 0) {
            System.exit(1);
        }
    }
}
