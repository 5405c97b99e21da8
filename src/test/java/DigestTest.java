import java.util.ArrayList;
import java.util.List;

/** Promise 45: digest. */
public final class DigestTest {
    private static final Due DUE = new Due("DigestTest");

    public static void main(String[] args) {
        ofANewObject();
        ofEverything();
        toldByTheOtherCalls();
        DUE.end();
    }

    private static long fold(List<Long> numbers) {
        long d = 58048;
        for (long x : numbers) {
            d = d * 31 + x;
        }
        return d;
    }

    private static void put(List<Long> all, long... numbers) {
        for (long number : numbers) {
            all.add(number);
        }
    }

    private static void ofANewObject() {
        List<Long> due = new ArrayList<>();
        put(due, 0, 0);
        for (int i = 0; i < 7; i++) {
            put(due, 1, 1, 0, -10000, 0);
        }
        put(due, 0, 0, 0, 0, 0, 0);
        DUE.is("digest() of a new object", new MarlStore().digest(), fold(due));
    }

    private static void ofEverything() {
        MarlStore x = new MarlStore();
        Build.document(x, 1, "[{7:t,3:-5},4]");
        Build.document(x, 5, "{99:n}");
        x.addPatch();
        x.diff(0, 1);
        x.addSchema();
        x.setKinds(0, 9, 0, 0);
        x.addSchema();
        x.addQuery();
        x.addPart(0, 1, 0);
        x.point(1);
        x.into(0);
        x.copy();
        x.into(7);
        x.addOperation(0, 1, 42);
        List<Long> due = new ArrayList<>();
        put(due, 1, 2, 0, 7);
        put(due, 1, 1, 0, -10000, 0);
        put(due, 5, 3, 3, -10000, 2, 0, 1, 4, -10000, 2, 3, 7, 2, -5, 0, 1, 1, 0, 2, 4, 0);
        put(due, 1, 1, 0, -10000, 0, 1, 1, 0, -10000, 0, 1, 1, 0, -10000, 0);
        put(due, 2, 2, 4, -10000, 1, 99, 0, -10000, 0);
        put(due, 3, 2, 4, -10000, 2, 3, 7, 2, -5, 0, 1, 1, 0);
        put(due, 6, 6, 0, 0, 3);
        put(due, 2, 1, 1, 2, 42, 0, 1, 2, 0, 0, 5);
        put(due, 31, 63);
        put(due, 0, 2, 0, 0, 0, 1);
        DUE.is("digest()", x.digest(), fold(due));
        DUE.is("digest() again", x.digest(), fold(due));
    }

    /** The digest once more, by the other calls of a second object that had the same calls. */
    private static void toldByTheOtherCalls() {
        MarlStore x = made();
        MarlStore y = made();
        List<Long> due = new ArrayList<>();
        put(due, y.document(), y.steps());
        for (int i = 0; i < y.steps(); i++) {
            put(due, y.stepAt(i));
        }
        for (int i = 0; i < 6; i++) {
            put(due, y.size(i), y.depth(i));
            y.point(i);
            putValues(due, y);
        }
        List<Long> behind = new ArrayList<>();
        for (int i = 0; i < 5; i++) {
            put(behind, y.difference(i, i + 1));
        }
        put(behind, y.patches());
        for (int i = 0; i < y.patches(); i++) {
            put(behind, y.operations(i));
            for (int j = 0; j < y.operations(i); j++) {
                for (int what = 0; what < 4; what++) {
                    put(behind, y.ofOperation(i, j, what));
                }
            }
        }
        put(behind, y.fitting(0), y.fitting(1), y.fitting(2));
        for (int i = 0; i < 6; i++) {
            put(behind, y.found(0, i));
        }
        y.point(0);
        y.paste();
        put(due, y.size(0), y.depth(0));
        putValues(due, y);
        due.addAll(behind);
        DUE.is("digest()", x.digest(), fold(due));
    }

    private static void putValues(List<Long> due, MarlStore y) {
        put(due, y.kind(), y.number(), y.children());
        for (int i = 0; i < y.children(); i++) {
            put(due, y.childStep(i));
        }
        for (int i = 0; i < y.children(); i++) {
            y.into(y.childStep(i));
            putValues(due, y);
            y.up();
        }
    }

    private static MarlStore made() {
        MarlStore x = new MarlStore();
        Build.document(x, 0, "[[1,2,3],{5:t},n]");
        Build.document(x, 1, "[[1,3],{5:f,8:[]},n]");
        Build.document(x, 3, "{0:[9]}");
        x.diff(0, 1);
        x.apply(0, 0);
        x.diff(3, 1);
        x.addSchema();
        x.addSchema();
        x.addSchema();
        x.setKinds(1, 24, 0, 0);
        x.setChildren(2, 1, 3, -1, -1);
        x.addQuery();
        x.addPart(0, 2, 0);
        x.addPart(0, 3, 0);
        x.point(1);
        x.into(1);
        x.copy();
        x.into(8);
        return x;
    }
}
