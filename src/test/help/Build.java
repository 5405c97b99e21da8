/**
 * Sets DOCUMENTS from texts: "n" NOTHING, "t" and "f" the TRUTHS, a number, "[..]" a LIST and
 * "{3:..}" an OBJECT, with commas between; and reads them back as such.
 */
final class Build {
    private final MarlStore x;
    private final String text;
    private int next;

    private Build(MarlStore x, String text) {
        this.x = x;
        this.text = text;
    }

    /** Leaves the POINTER at the whole VALUE, and NOTHING in the CLIP. */
    static void document(MarlStore x, int document, String text) {
        x.point(document);
        x.set(0, 0);
        x.copy();
        new Build(x, text).value();
    }

    /** Puts a VALUE into the CLIP; the DOCUMENT is used for it, and NOTHING then. */
    static void clip(MarlStore x, int document, String text) {
        document(x, document, text);
        x.copy();
        x.set(0, 0);
    }

    /** The whole VALUE of a DOCUMENT as such a text; the POINTER is at the whole VALUE then. */
    static String read(MarlStore x, int document) {
        x.point(document);
        StringBuilder out = new StringBuilder();
        write(x, out);
        return out.toString();
    }

    private void value() {
        char sign = text.charAt(next);
        if (sign == '[' || sign == '{') {
            nest(sign);
        } else if (sign == 'n') {
            next++;
        } else if (sign == 't' || sign == 'f') {
            next++;
            x.set(1, sign == 't' ? 1 : 0);
        } else {
            x.set(2, number());
        }
    }

    private void nest(char sign) {
        x.set(sign == '[' ? 3 : 4, 0);
        next++;
        for (int i = 0; text.charAt(next) != ']' && text.charAt(next) != '}'; i++) {
            int step = i;
            if (sign == '{') {
                step = number();
                next++;
            }
            x.insert(step);
            x.into(step);
            value();
            x.up();
            if (text.charAt(next) == ',') {
                next++;
            }
        }
        next++;
    }

    private int number() {
        int from = next;
        while (next < text.length() && "-0123456789".indexOf(text.charAt(next)) >= 0) {
            next++;
        }
        return Integer.parseInt(text.substring(from, next));
    }

    private static void write(MarlStore x, StringBuilder out) {
        int kind = x.kind();
        if (kind < 3) {
            out.append(kind == 0 ? "n" : kind == 2 ? "" + x.number() : x.number() == 1 ? "t" : "f");
            return;
        }
        out.append(kind == 3 ? '[' : '{');
        for (int i = 0; i < x.children(); i++) {
            int step = x.childStep(i);
            out.append(i > 0 ? "," : "").append(kind == 4 ? step + ":" : "");
            x.into(step);
            write(x, out);
            x.up();
        }
        out.append(kind == 3 ? ']' : '}');
    }
}
