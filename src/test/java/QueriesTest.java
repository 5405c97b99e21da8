/** Promises 38 to 44: queries. */
public final class QueriesTest {
    private static final Due DUE = new Due("QueriesTest");
    private static final int STEP = 0;
    private static final int ANY = 1;
    private static final int DEEP = 2;
    private static final int LAST = 3;
    private static final int LESS = 4;
    private static final int WITH = 5;
    private static final int KIND = 6;

    public static void main(String[] args) {
        addQuery();
        addPart();
        withoutParts();
        eachPart();
        partsBehindParts();
        foundOnce();
        pointFound();
        having();
        mean();
        dropFound();
        dropFoundAndThePointer();
        wrongNumbers();
        DUE.end();
    }

    /** A new object with this as DOCUMENT 3, and a QUERY of PARTS and their n in turn. */
    private static MarlStore with(String document, int... parts) {
        MarlStore x = new MarlStore();
        Build.document(x, 3, document);
        x.addQuery();
        for (int i = 0; i < parts.length; i += 2) {
            x.addPart(0, parts[i], parts[i + 1]);
        }
        return x;
    }

    /** The PATHS of what is found, as "STEP.STEP" with blanks between, and "-" for the whole. */
    private static void finds(String document, String due, int... parts) {
        MarlStore x = with(document, parts);
        String[] paths = due.isEmpty() ? new String[0] : due.split(" ");
        DUE.is("found in " + document, x.found(0, 3), paths.length);
        for (int i = 0; i < paths.length; i++) {
            int kind = x.pointFound(0, 3, i);
            DUE.is("kind()", x.kind(), kind);
            StringBuilder got = new StringBuilder(x.steps() == 0 ? "-" : "");
            for (int j = 0; j < x.steps(); j++) {
                got.append(j > 0 ? "." : "").append(x.stepAt(j));
            }
            DUE.holds("found " + i + " in " + document + " is " + got + ", due is " + paths[i],
                    got.toString().equals(paths[i]));
        }
        DUE.bounds(x, "pointFound", 0, 3, paths.length);
    }

    private static void addQuery() {
        MarlStore x = new MarlStore();
        for (int i = 0; i < 6; i++) {
            DUE.call(x, "" + i, "addQuery");
            DUE.call(x, "1", "found", i, 0);
        }
        DUE.state(x, "addQuery");
    }

    private static void addPart() {
        MarlStore x = new MarlStore();
        DUE.bounds(x, "addPart", 0, 9, 0);
        x.addQuery();
        DUE.bounds(x, "addPart", -1, 9, 0);
        DUE.bounds(x, "addPart", 1, 9, 0);
        int[][] wrong = {{-1, 0}, {7, 0}, {STEP, -1}, {STEP, 100}, {WITH, -1}, {WITH, 100},
            {LESS, -10000}, {LESS, 10000}, {KIND, -1}, {KIND, 5}};
        for (int[] one : wrong) {
            DUE.argument(x, "addPart", 0, one[0], one[1]);
        }
        int[][] right = {{STEP, 0}, {STEP, 99}, {WITH, 0}, {WITH, 99}, {LESS, -9999}, {LESS, 9999},
            {KIND, 0}, {KIND, 4}, {ANY, -50000}, {DEEP, 50000}, {LAST, -1}};
        for (int i = 0; i < right.length; i++) {
            if (i % 5 == 0) {
                x.addQuery();
            }
            DUE.call(x, "" + (i % 5 + 1), "addPart", i / 5 + 1, right[i][0], right[i][1]);
        }
        DUE.argument(x, "addPart", 1, 7, 0);
        DUE.state(x, "addPart", 1, STEP, 0);
        DUE.state(x, "addPart", 2, ANY, 0);
        DUE.call(x, "1", "addPart", 0, ANY, 0);
    }

    private static void withoutParts() {
        finds("n", "-");
        finds("[n,[n]]", "-");
    }

    private static void eachPart() {
        String document = "[5,{3:[],7:-2},[n,[t]],-1]";
        finds(document, "1", STEP, 1);
        finds(document, "", STEP, 4);
        finds("{3:n,44:t}", "44", STEP, 44);
        finds("{3:n,44:t}", "", STEP, 0);
        finds("5", "", STEP, 0);
        finds(document, "0 1 2 3", ANY, 0);
        finds("{44:[n],3:n}", "3 44", ANY, 0);
        finds("t", "", ANY, 0);
        finds(document, "- 0 1 1.3 1.7 2 2.0 2.1 2.1.0 3", DEEP, 0);
        finds("n", "-", DEEP, 0);
        finds(document, "3", LAST, 0);
        finds("{44:[n],3:n}", "44", LAST, 0);
        finds("[n,[n,t]]", "1", LAST, 0);
        finds("[]", "", LAST, 0);
        finds("5", "", LAST, 0);
        finds("5", "-", LESS, 6);
        finds("5", "", LESS, 5);
        finds("t", "", LESS, 6);
        finds("n", "", LESS, 6);
        finds("[]", "", LESS, 6);
        finds("[n,n]", "-", WITH, 1);
        finds("[n,n]", "", WITH, 2);
        finds("{4:n}", "-", WITH, 4);
        finds("{4:n}", "", WITH, 0);
        finds("5", "", WITH, 0);
        String[] kinds = {"n", "t", "5", "[n]", "{1:n}"};
        for (int i = 0; i < 5; i++) {
            for (int j = 0; j < 5; j++) {
                finds(kinds[i], i == j ? "-" : "", KIND, j);
            }
        }
    }

    private static void partsBehindParts() {
        String document = "{1:[5,{3:[],7:-2}],2:[n,[t,4]],9:{3:8}}";
        finds(document, "1 1.1.3 2 2.1", DEEP, 0, WITH, 1, DEEP, 0, KIND, 3);
        finds(document, "2 2.0 2.1 2.1.0 2.1.1", STEP, 2, DEEP, 0);
        finds(document, "1.1 1.1.3 1.1.7", STEP, 1, LAST, 0, DEEP, 0);
        finds(document, "1.0 1.1 2.0 2.1 9.3", ANY, 0, ANY, 0);
        finds(document, "1.1 2.1 9.3", ANY, 0, LAST, 0);
        finds(document, "1.1.3 9.3", DEEP, 0, STEP, 3);
        finds(document, "1.1.7 2.1.1", DEEP, 0, LESS, 5);
        finds(document, "1.1 9", DEEP, 0, WITH, 3);
        finds(document, "2.1.1", STEP, 2, LAST, 0, LAST, 0, LESS, 5, KIND, 2);
        finds(document, "", STEP, 2, STEP, 0, ANY, 0);
        finds(document, "1.1.7 2.1.1 9.3", DEEP, 0, LAST, 0, KIND, 2);
    }

    private static void foundOnce() {
        finds("[[n,[n]],[]]", "- 0 0.0 0.1 0.1.0 1", DEEP, 0, DEEP, 0);
        finds("[[n,[n]],[]]", "0 0.0 0.1 0.1.0 1", DEEP, 0, ANY, 0, DEEP, 0);
        finds("[[n,[n]],[]]", "0.1 0.1.0 1", DEEP, 0, LAST, 0);
        finds("[[[[n]]]]", "0 0.0 0.0.0 0.0.0.0", DEEP, 0, STEP, 0, DEEP, 0);
    }

    private static void pointFound() {
        MarlStore x = with("[n,{5:t},-3]", DEEP, 0);
        DUE.call(x, "3", "pointFound", 0, 3, 0);
        DUE.is("document()", x.document(), 3);
        DUE.call(x, "1", "pointFound", 0, 3, 3);
        DUE.is("steps()", x.steps(), 2);
        DUE.call(x, "2", "pointFound", 0, 3, 4);
        DUE.is("number()", x.number(), -3);
        DUE.call(x, "0", "pointFound", 0, 1, 0);
        DUE.is("document()", x.document(), 1);
        DUE.is("steps()", x.steps(), 0);
        DUE.bounds(x, "pointFound", 0, 3, 5);
        DUE.bounds(x, "pointFound", 0, 3, -1);
        DUE.bounds(x, "pointFound", 0, 3, 64);
        DUE.bounds(x, "pointFound", 0, 3, Integer.MAX_VALUE);
        DUE.bounds(x, "pointFound", 0, 3, Integer.MIN_VALUE);
        x.addPart(0, STEP, 77);
        DUE.bounds(x, "pointFound", 0, 3, 0);
    }

    private static void having() {
        MarlStore x = with("[n,t,[5]]", DEEP, 0);
        Build.document(x, 0, "-7");
        Build.document(x, 5, "{3:5,4:6}");
        DUE.call(x, "40", "having", 0, 5, 5);
        DUE.call(x, "41", "having", 0, -9999, 9999);
        DUE.call(x, "41", "having", 0, Integer.MIN_VALUE, Integer.MAX_VALUE);
        DUE.call(x, "32", "having", 0, 6, 100);
        DUE.call(x, "0", "having", 0, 7, 100);
        DUE.call(x, "1", "having", 0, -8, -7);
        DUE.call(x, "0", "having", 0, -6, 4);
        DUE.call(x, "0", "having", 0, -10000, -10000);
        DUE.argument(x, "having", 0, 5, 4);
        DUE.argument(x, "having", 0, Integer.MAX_VALUE, Integer.MIN_VALUE);
        x.addPart(0, STEP, 3);
        DUE.call(x, "32", "having", 0, 5, 5);
        DUE.bounds(x, "having", 1, 5, 4);
        DUE.bounds(x, "having", -1, 5, 4);
    }

    private static void mean() {
        MarlStore x = with("[n,t,[5],2,{1:-1,2:1}]", DEEP, 0);
        DUE.is("mean", x.mean(0, 3), 7.0 / 4);
        DUE.is("mean of none", x.mean(0, 0), 0.0);
        x.addPart(0, LESS, 5);
        DUE.is("mean", x.mean(0, 3), 2.0 / 3);
        x.addPart(0, LESS, 1);
        DUE.is("mean", x.mean(0, 3), -1.0);
        x.addPart(0, KIND, 1);
        DUE.is("mean of none", x.mean(0, 3), 0.0);
        Build.document(x, 1, "[9999,9998,-3]");
        x.addQuery();
        x.addPart(1, ANY, 0);
        DUE.is("mean", x.mean(1, 1), 19994.0 / 3);
        Build.document(x, 1, "[-5,5]");
        DUE.is("mean of nothing in all", x.mean(1, 1), 0.0);
    }

    private static void drops(String document, String due, int size, int... parts) {
        MarlStore x = with(document, parts);
        DUE.call(x, "" + size, "dropFound", 0, 3);
        DUE.is("size(3)", x.size(3), size);
        String got = Build.read(x, 3);
        DUE.holds("dropped from " + document + ": " + got + ", due is " + due, got.equals(due));
    }

    private static void dropFound() {
        drops("[1,2,3,4,5]", "[4,5]", 3, ANY, 0, LESS, 4);
        drops("[1,9,3,8,5]", "[9,8]", 3, ANY, 0, LESS, 6);
        drops("[1,9,3,8,5]", "[]", 1, DEEP, 0);
        drops("5", "5", 1);
        drops("[n,t]", "[n,t]", 3);
        drops("{1:[n,t],3:[n],5:n}", "{1:[t],3:[],5:n}", 5, ANY, 0, STEP, 0);
        drops("{1:[n,t],3:[n],5:n}", "{5:n}", 2, DEEP, 0, KIND, 3);
        drops("{1:[n,t],3:[n],5:n}", "{1:[n],3:[]}", 4, DEEP, 0, LAST, 0);
        drops("[[1,[1,2]],{4:1,5:[3,1]}]", "[[[2]],{5:[3]}]", 7, DEEP, 0, LESS, 2);
        drops("[[[[[[n]]]]]]", "[]", 1, DEEP, 0, KIND, 3);
        drops("[n,[n]]", "[n,[n]]", 4, STEP, 5);
        drops("[[n,n],[n,n]]", "[[],[]]", 3, ANY, 0, ANY, 0);
    }

    private static void dropFoundAndThePointer() {
        MarlStore x = with("[n,[[t],5],[n,[n]]]", ANY, 0, STEP, 0);
        x.point(3);
        x.into(2);
        x.into(1);
        x.into(0);
        DUE.call(x, "7", "dropFound", 0, 3);
        DUE.is("steps()", x.steps(), 1);
        DUE.is("stepAt(0)", x.stepAt(0), 2);
        x.into(0);
        x.into(0);
        Build.document(x, 1, "[[n]]");
        x.point(3);
        x.into(2);
        x.into(0);
        x.into(0);
        DUE.call(x, "2", "dropFound", 0, 1);
        DUE.is("steps() in another document", x.steps(), 3);
    }

    private static void wrongNumbers() {
        MarlStore x = new MarlStore();
        String[] names = {"found", "mean", "dropFound"};
        for (String name : names) {
            DUE.bounds(x, name, 0, 0);
        }
        DUE.bounds(x, "pointFound", 0, 0, 0);
        x.addQuery();
        int[][] wrong = {{1, 0}, {-1, 0}, {6, 0}, {0, -1}, {0, 6}, {7, 7}};
        for (int[] one : wrong) {
            for (String name : names) {
                DUE.bounds(x, name, one);
            }
            DUE.bounds(x, "pointFound", one[0], one[1], 0);
        }
        DUE.call(x, "1", "found", 0, 5);
        DUE.call(x, "1", "dropFound", 0, 5);
        DUE.call(x, "0", "pointFound", 0, 5, 0);
    }
}
