import java.util.Collections;

/**
 * Sets DOCUMENTS from texts: "n" NOTHING, "t" and "f" the TRUTHS, a number, "[..]" a LIST and
 * "{3:..}" an OBJECT, with commas between; and reads them back as such.
 */
final class Build {
    private final MarlStore x;
    private final String text;
    private int next;

    private Build(MarlStore x, String text) {
        this.x = x;
        this.text = text;
    }

    /** Leaves the POINTER at the whole VALUE, and NOTHING in the CLIP. */
    static void document(MarlStore x, int document, String text) {
        x.point(document);
        x.set(0, 0);
        x.copy();
        new Build(x, text).value();
    }

    /** Puts a VALUE into the CLIP; the DOCUMENT is used for it, and NOTHING then. */
    static void clip(MarlStore x, int document, String text) {
        document(x, document, text);
        x.copy();
        x.set(0, 0);
    }

    /** The whole VALUE of a DOCUMENT as such a text; the POINTER is at the whole VALUE then. */
    static String read(MarlStore x, int document) {
        StringBuilder out = new StringBuilder();
        write(x, x.point(document), out);
        return out.toString();
    }

    /** The POINTER goes along a PATH, from the whole VALUE of the DOCUMENT on. */
    static void at(MarlStore x, int document, int... path) {
        x.point(document);
        for (int step : path) {
            x.into(step);
        }
    }

    /** Adds an OPERATION with such a VALUE and PATH; DOCUMENTS 4 and 5 are used for it. */
    static void operation(MarlStore x, int patch, int code, int step, String value, int... path) {
        StringBuilder way = new StringBuilder();
        for (int one : path) {
            way.append('{').append(one).append(':');
        }
        document(x, 4, way + "n" + "}".repeat(path.length));
        clip(x, 5, value);
        at(x, 4, path);
        x.addOperation(patch, code, step);
    }

    /** The PATH of the POINTER as "STEP.STEP". */
    static String path(MarlStore x) {
        StringBuilder all = new StringBuilder();
        int steps = x.steps();
        for (int i = 0; i < steps; i++) {
            all.append(i > 0 ? "." : "").append(x.stepAt(i));
        }
        return all.toString();
    }

    /** A LIST with so many CHILDREN of this text. */
    static String list(int count, String child) {
        return "[" + String.join(",", Collections.nCopies(count, child)) + "]";
    }

    /** An OBJECT with this text for each of so many KEYS. */
    static String object(int from, int count, String child) {
        StringBuilder all = new StringBuilder("{");
        for (int i = 0; i < count; i++) {
            all.append(i > 0 ? "," : "").append(from + i).append(':').append(child);
        }
        return all.append('}').toString();
    }

    /** LISTS in one another, with one CHILD each but the innermost, which has none. */
    static String nested(int depth) {
        return "[".repeat(depth) + "]".repeat(depth);
    }

    private void value() {
        char sign = text.charAt(next);
        if (sign == '[' || sign == '{') {
            nest(sign);
        } else if (sign == 'n') {
            next++;
        } else if (sign == 't' || sign == 'f') {
            next++;
            x.set(1, sign == 't' ? 1 : 0);
        } else {
            x.set(2, number());
        }
    }

    private void nest(char sign) {
        x.set(sign == '[' ? 3 : 4, 0);
        next++;
        for (int i = 0; text.charAt(next) != ']' && text.charAt(next) != '}'; i++) {
            int step = i;
            if (sign == '{') {
                step = number();
                next++;
            }
            x.insert(step);
            child(step);
            if (text.charAt(next) == ',') {
                next++;
            }
        }
        next++;
    }

    /** NOTHING is there already: it was in the CLIP. */
    private void child(int step) {
        if (text.charAt(next) == 'n') {
            next++;
            return;
        }
        x.into(step);
        value();
        x.up();
    }

    private int number() {
        int from = next;
        while (next < text.length() && "-0123456789".indexOf(text.charAt(next)) >= 0) {
            next++;
        }
        return Integer.parseInt(text.substring(from, next));
    }

    private static void write(MarlStore x, int kind, StringBuilder out) {
        if (kind < 3) {
            out.append(kind == 0 ? "n" : kind == 2 ? "" + x.number() : x.number() == 1 ? "t" : "f");
            return;
        }
        out.append(kind == 3 ? '[' : '{');
        int count = x.children();
        for (int i = 0; i < count; i++) {
            int step = x.childStep(i);
            out.append(i > 0 ? "," : "").append(kind == 4 ? step + ":" : "");
            write(x, x.into(step), out);
            x.up();
        }
        out.append(kind == 3 ? ']' : '}');
    }
}
