/** Promises 1 to 7: a new object, and the pointer. */
public final class PointerTest {
    private static final Due DUE = new Due("PointerTest");

    public static void main(String[] args) {
        aNewObject();
        point();
        into();
        up();
        stepAt();
        DUE.end();
    }

    private static void aNewObject() {
        MarlStore x = new MarlStore();
        DUE.is("document()", x.document(), 0);
        DUE.is("steps()", x.steps(), 0);
        DUE.is("clip()", x.clip(), 1);
        DUE.is("patches()", x.patches(), 0);
        for (int i = 0; i < 6; i++) {
            DUE.is("size", x.size(i), 1);
            DUE.is("depth", x.depth(i), 1);
            DUE.is("point", x.point(i), 0);
            DUE.is("number", x.number(), -10000);
            DUE.is("children", x.children(), 0);
        }
        DUE.bounds(x, "operations", 0);
        DUE.bounds(x, "fitting", 0);
        DUE.bounds(x, "found", 0, 0);
        x.set(2, 7);
        DUE.is("paste() of the first clip", x.paste(), 1);
        DUE.is("kind()", x.kind(), 0);
    }

    private static void point() {
        MarlStore x = new MarlStore();
        Build.document(x, 0, "[t,{4:[]}]");
        Build.document(x, 5, "12");
        DUE.call(x, "2", "point", 5);
        DUE.is("document()", x.document(), 5);
        DUE.call(x, "3", "point", 0);
        x.into(1);
        x.into(4);
        DUE.is("steps()", x.steps(), 2);
        DUE.bounds(x, "point", -1);
        DUE.bounds(x, "point", 6);
        DUE.bounds(x, "point", Integer.MIN_VALUE);
        DUE.bounds(x, "point", Integer.MAX_VALUE);
        DUE.call(x, "3", "point", 0);
        DUE.is("steps() behind point", x.steps(), 0);
        DUE.call(x, "0", "point", 1);
    }

    private static void into() {
        MarlStore x = new MarlStore();
        DUE.bounds(x, "into", 0);
        Build.document(x, 0, "[t,{4:[n],99:5},n]");
        DUE.bounds(x, "into", 3);
        DUE.bounds(x, "into", -1);
        DUE.call(x, "1", "into", 0);
        DUE.bounds(x, "into", 0);
        x.up();
        DUE.call(x, "4", "into", 1);
        DUE.bounds(x, "into", 0);
        DUE.bounds(x, "into", 5);
        DUE.call(x, "2", "into", 99);
        x.up();
        DUE.call(x, "3", "into", 4);
        DUE.call(x, "0", "into", 0);
        DUE.is("steps()", x.steps(), 3);
        DUE.is("stepAt(0)", x.stepAt(0), 1);
        DUE.is("stepAt(1)", x.stepAt(1), 4);
        DUE.is("stepAt(2)", x.stepAt(2), 0);
        Build.document(x, 1, "[[[[[[n]]]]]]");
        for (int i = 0; i < 5; i++) {
            DUE.call(x, "3", "into", 0);
        }
        DUE.call(x, "0", "into", 0);
        DUE.bounds(x, "into", 0);
        DUE.is("steps() at the greatest depth", x.steps(), 6);
    }

    private static void up() {
        MarlStore x = new MarlStore();
        DUE.state(x, "up");
        Build.document(x, 3, "{7:[n]}");
        x.into(7);
        x.into(0);
        DUE.call(x, "1", "up");
        DUE.is("kind()", x.kind(), 3);
        DUE.call(x, "0", "up");
        DUE.is("kind()", x.kind(), 4);
        DUE.is("document()", x.document(), 3);
        DUE.state(x, "up");
    }

    private static void stepAt() {
        MarlStore x = new MarlStore();
        DUE.bounds(x, "stepAt", 0);
        Build.document(x, 0, "{20:{30:n}}");
        x.into(20);
        x.into(30);
        DUE.call(x, "20", "stepAt", 0);
        DUE.call(x, "30", "stepAt", 1);
        DUE.bounds(x, "stepAt", 2);
        DUE.bounds(x, "stepAt", -1);
        DUE.bounds(x, "stepAt", 6);
        DUE.bounds(x, "stepAt", Integer.MAX_VALUE);
        x.up();
        DUE.bounds(x, "stepAt", 1);
    }
}
