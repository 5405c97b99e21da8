/** Promises 20 to 28: patches. */
public final class PatchesTest {
    private static final Due DUE = new Due("PatchesTest");
    private static final int ADD = 0;
    private static final int DROP = 1;
    private static final int SET = 2;
    private static final int TEST = 3;

    public static void main(String[] args) {
        addPatchAndForget();
        addOperation();
        addOperationAsItIsNow();
        applyAdd();
        applyDrop();
        applySet();
        applyTest();
        inverse();
        inverseOfInverse();
        allOrNothing();
        largerInBetween();
        deeperInBetween();
        pointerBehindApply();
        applyWithoutRoom();
        failsAt();
        wrongNumbers();
        diff();
        diffIsFull();
        ofOperation();
        DUE.end();
    }

    /** A new object with one PATCH of one OPERATION, and DOCUMENT 0. */
    private static MarlStore with(String document, int code, int step, String value, int... path) {
        MarlStore x = new MarlStore();
        x.addPatch();
        Build.operation(x, 0, code, step, value, path);
        Build.document(x, 0, document);
        return x;
    }

    private static void applied(String due, String document, int code, int step, String value,
            int... path) {
        MarlStore x = with(document, code, step, value, path);
        DUE.call(x, "-1", "failsAt", 0, 0);
        DUE.call(x, "1", "apply", 0, 0);
        DUE.reads(x, 0, due);
        DUE.call(x, "2", "apply", 1, 0);
        DUE.reads(x, 0, document);
        DUE.call(x, "3", "patches");
    }

    private static void notApplied(String document, int code, int step, String value, int... path) {
        MarlStore x = with(document, code, step, value, path);
        DUE.call(x, "0", "failsAt", 0, 0);
        DUE.call(x, "-1", "apply", 0, 0);
        DUE.reads(x, 0, document);
        DUE.call(x, "1", "patches");
    }

    private static void addPatchAndForget() {
        MarlStore x = new MarlStore();
        DUE.state(x, "forget");
        for (int i = 0; i < 8; i++) {
            DUE.call(x, "" + i, "addPatch");
            DUE.call(x, "" + (i + 1), "patches");
            DUE.call(x, "0", "operations", i);
        }
        DUE.state(x, "addPatch");
        x.addOperation(7, SET, 0);
        x.addOperation(6, SET, 0);
        DUE.call(x, "7", "forget");
        DUE.call(x, "7", "patches");
        DUE.bounds(x, "operations", 7);
        DUE.call(x, "7", "addPatch");
        DUE.call(x, "0", "operations", 7);
        DUE.call(x, "1", "operations", 6);
        for (int i = 7; i >= 0; i--) {
            DUE.call(x, "" + i, "forget");
        }
        DUE.state(x, "forget");
    }

    private static void addOperation() {
        MarlStore x = new MarlStore();
        DUE.bounds(x, "addOperation", 0, ADD, 0);
        x.addPatch();
        DUE.bounds(x, "addOperation", -1, 9, 100);
        DUE.bounds(x, "addOperation", 1, 9, 100);
        DUE.argument(x, "addOperation", 0, -1, 0);
        DUE.argument(x, "addOperation", 0, 4, 0);
        DUE.argument(x, "addOperation", 0, ADD, -1);
        DUE.argument(x, "addOperation", 0, ADD, 100);
        DUE.argument(x, "addOperation", 0, DROP, -1);
        DUE.argument(x, "addOperation", 0, DROP, 100);
        DUE.call(x, "1", "addOperation", 0, ADD, 99);
        DUE.call(x, "2", "addOperation", 0, DROP, 0);
        DUE.call(x, "3", "addOperation", 0, SET, -1);
        DUE.call(x, "4", "addOperation", 0, TEST, 1000);
        for (int i = 5; i <= 20; i++) {
            DUE.call(x, "" + i, "addOperation", 0, TEST, 0);
        }
        DUE.argument(x, "addOperation", 0, 4, 0);
        DUE.argument(x, "addOperation", 0, ADD, 100);
        DUE.state(x, "addOperation", 0, TEST, 0);
        DUE.state(x, "addOperation", 0, ADD, 5);
        DUE.is("operations(0)", x.operations(0), 20);
    }

    private static void addOperationAsItIsNow() {
        MarlStore x = with("[1,[2]]", ADD, 1, "{7:t}", 1);
        Build.document(x, 4, "[n]");
        Build.clip(x, 5, "[9]");
        Build.document(x, 0, "[1,[2]]");
        DUE.call(x, "1", "apply", 0, 0);
        DUE.reads(x, 0, "[1,[2,{7:t}]]");
    }

    private static void applyAdd() {
        applied("[5]", "[]", ADD, 0, "5");
        applied("[5,1,2]", "[1,2]", ADD, 0, "5");
        applied("[1,5,2]", "[1,2]", ADD, 1, "5");
        applied("[1,2,[5,{}]]", "[1,2]", ADD, 2, "[5,{}]");
        applied("{3:n,4:[t]}", "{4:[t]}", ADD, 3, "n");
        applied("{4:[t],99:n}", "{4:[t]}", ADD, 99, "n");
        applied("{4:[n,t]}", "{4:[t]}", ADD, 0, "n", 4);
        notApplied("[1,2]", ADD, 3, "5");
        notApplied("{4:n}", ADD, 4, "5");
        notApplied("5", ADD, 0, "5");
        notApplied("t", ADD, 0, "5");
        notApplied("n", ADD, 0, "5");
        notApplied("{4:[t]}", ADD, 0, "n", 5);
        notApplied("{4:[t]}", ADD, 0, "n", 4, 1);
    }

    private static void applyDrop() {
        applied("[2,[]]", "[1,2,[]]", DROP, 0, "n");
        applied("[1,[]]", "[1,2,[]]", DROP, 1, "n");
        applied("[1,2]", "[1,2,[]]", DROP, 2, "n");
        applied("{}", "{4:[t]}", DROP, 4, "n");
        applied("{4:[t]}", "{0:{7:8},4:[t]}", DROP, 0, "n");
        applied("[1,{4:[]}]", "[1,{4:[[3,4]]}]", DROP, 0, "n", 1, 4);
        notApplied("[1,2]", DROP, 2, "n");
        notApplied("{0:1,2:1}", DROP, 1, "n");
        notApplied("5", DROP, 0, "n");
        notApplied("[1,{4:[]}]", DROP, 0, "n", 1, 5);
    }

    private static void applySet() {
        applied("[]", "5", SET, 0, "[]");
        applied("{1:{2:t}}", "{1:[4,5]}", SET, 0, "{2:t}", 1);
        applied("[1,n]", "[1,2]", SET, 99, "n", 1);
        notApplied("[1,2]", SET, 0, "n", 2);
        notApplied("5", SET, 0, "n", 0);
    }

    private static void applyTest() {
        String[] all = {"n", "t", "f", "0", "1", "-1", "[]", "{}", "[n]", "{0:n}", "{1:n}", "[[n,t]]",
            "[[t,n]]", "[[n,f]]", "{0:{1:2}}", "{0:{1:3}}", "[n,n]"};
        for (String one : all) {
            for (String other : all) {
                if (one.equals(other)) {
                    applied(one, one, TEST, 0, other);
                } else {
                    notApplied(one, TEST, 0, other);
                }
            }
        }
        applied("[4,{3:[t]}]", "[4,{3:[t]}]", TEST, 0, "[t]", 1, 3);
        notApplied("[4,{3:[t]}]", TEST, 0, "[t]", 1, 4);
        notApplied("[4,{3:[t]}]", TEST, 0, "[t]", 1);
    }

    private static void inverse() {
        MarlStore x = new MarlStore();
        x.addPatch();
        Build.operation(x, 0, ADD, 1, "[3,4]", 5);
        Build.operation(x, 0, DROP, 0, "n", 5);
        Build.operation(x, 0, SET, 0, "t", 6);
        Build.operation(x, 0, TEST, 0, "t", 6);
        Build.document(x, 0, "{5:[[1,2,3]],6:{1:2}}");
        DUE.call(x, "1", "apply", 0, 0);
        DUE.reads(x, 0, "{5:[[3,4]],6:t}");
        int[][] due = {{TEST, 1, 0, 1}, {SET, 1, 0, 2}, {ADD, 1, 0, 4}, {DROP, 1, 1, 0}};
        DUE.call(x, "4", "operations", 1);
        for (int i = 0; i < 4; i++) {
            for (int what = 0; what < 4; what++) {
                DUE.call(x, "" + due[i][what], "ofOperation", 1, i, what);
            }
        }
        DUE.call(x, "2", "apply", 1, 0);
        DUE.reads(x, 0, "{5:[[1,2,3]],6:{1:2}}");
    }

    private static void inverseOfInverse() {
        MarlStore x = new MarlStore();
        x.addPatch();
        Build.operation(x, 0, ADD, 0, "[1]");
        Build.operation(x, 0, ADD, 0, "{2:3}", 0);
        Build.operation(x, 0, DROP, 1, "n");
        Build.document(x, 0, "[[t,f],n]");
        DUE.call(x, "1", "apply", 0, 0);
        DUE.reads(x, 0, "[[{2:3},1],n]");
        DUE.call(x, "2", "apply", 1, 0);
        DUE.reads(x, 0, "[[t,f],n]");
        DUE.call(x, "3", "apply", 2, 0);
        DUE.reads(x, 0, "[[{2:3},1],n]");
        DUE.call(x, "4", "apply", 3, 0);
        DUE.reads(x, 0, "[[t,f],n]");
    }

    private static void allOrNothing() {
        MarlStore x = new MarlStore();
        x.addPatch();
        Build.operation(x, 0, ADD, 0, "5");
        Build.operation(x, 0, SET, 0, "n", 1);
        Build.operation(x, 0, DROP, 3, "n");
        Build.document(x, 0, "[1,2]");
        DUE.call(x, "2", "failsAt", 0, 0);
        DUE.call(x, "-1", "apply", 0, 0);
        DUE.reads(x, 0, "[1,2]");
        DUE.is("patches()", x.patches(), 1);
        Build.document(x, 0, "[]");
        DUE.call(x, "1", "failsAt", 0, 0);
        Build.document(x, 0, "[1,2,3]");
        DUE.call(x, "-1", "failsAt", 0, 0);
        DUE.call(x, "1", "apply", 0, 0);
        DUE.reads(x, 0, "[5,n,2]");
    }

    private static String nothings(int count) {
        return "[" + "n,".repeat(count - 1) + "n]";
    }

    private static void largerInBetween() {
        MarlStore x = new MarlStore();
        x.addPatch();
        Build.operation(x, 0, ADD, 0, nothings(30));
        Build.operation(x, 0, ADD, 0, "n");
        x.addOperation(0, ADD, 0);
        Build.document(x, 0, nothings(10));
        DUE.call(x, "-1", "failsAt", 0, 0);
        DUE.is("size beyond", x.size(0), 11);
        Build.document(x, 0, nothings(16));
        DUE.call(x, "-1", "failsAt", 0, 0);
        Build.document(x, 0, nothings(17));
        DUE.call(x, "3", "failsAt", 0, 0);
        DUE.call(x, "-1", "apply", 0, 0);
        DUE.is("size(0)", x.size(0), 18);
        Build.document(x, 4, "n");
        x.point(4);
        x.addOperation(0, DROP, 2);
        DUE.call(x, "-1", "failsAt", 0, 0);
        DUE.call(x, "1", "apply", 0, 0);
        DUE.is("size(0)", x.size(0), 20);
        DUE.call(x, "31", "ofOperation", 1, 0, 3);
        DUE.call(x, "2", "apply", 1, 0);
        DUE.is("size(0)", x.size(0), 18);
    }

    private static void deeperInBetween() {
        MarlStore x = new MarlStore();
        x.addPatch();
        Build.operation(x, 0, ADD, 0, "[[[[[[n]]]]]]", 0, 0, 0, 0, 0, 0);
        Build.document(x, 0, "[[[[[[[]]]]]]]");
        DUE.call(x, "1", "failsAt", 0, 0);
        DUE.call(x, "-1", "apply", 0, 0);
        Build.document(x, 4, "n");
        x.point(4);
        x.addOperation(0, DROP, 0);
        DUE.call(x, "1", "apply", 0, 0);
        DUE.reads(x, 0, "[]");
        DUE.call(x, "13", "ofOperation", 1, 0, 3);
        DUE.call(x, "2", "apply", 1, 0);
        DUE.reads(x, 0, "[[[[[[[]]]]]]]");
        Build.clip(x, 5, "[]");
        x.point(4);
        x.set(2, 3);
        x.copy();
        x.addPatch();
        Build.operation(x, 3, SET, 0, "[[[[[[n]]]]]]", 0);
        Build.document(x, 0, "[n]");
        DUE.call(x, "1", "failsAt", 3, 0);
    }

    private static void pointerBehindApply() {
        MarlStore x = new MarlStore();
        x.addPatch();
        Build.operation(x, 0, DROP, 1, "n");
        Build.document(x, 0, "[n,[[t]]]");
        Build.document(x, 1, "[n,[[t]],[[]]]");
        Build.document(x, 2, "[n,[[t]],t]");
        Build.document(x, 3, "[n,[[t]],[[5,6]]]");
        pointerBehind(x, 3, 3);
        DUE.is("number() of what is there now", x.number(), 5);
        pointerBehind(x, 1, 2);
        pointerBehind(x, 2, 1);
        pointerBehind(x, 0, 0);
        Build.document(x, 1, "[n,n]");
        x.point(3);
        x.into(1);
        x.apply(0, 1);
        DUE.is("steps() in another document", x.steps(), 1);
    }

    /** The POINTER is at STEPS 1, 0 and 0 of the DOCUMENT; what was at 2 comes there. */
    private static void pointerBehind(MarlStore x, int document, int due) {
        x.point(document);
        x.into(1);
        x.into(0);
        x.into(0);
        x.apply(0, document);
        DUE.is("steps() behind apply to " + document, x.steps(), due);
        DUE.is("document()", x.document(), document);
        for (int i = 0; i < due; i++) {
            DUE.is("stepAt", x.stepAt(i), i == 0 ? 1 : 0);
        }
    }

    private static void applyWithoutRoom() {
        MarlStore x = with("[]", ADD, 0, "5");
        for (int i = 1; i < 8; i++) {
            DUE.call(x, "" + i, "addPatch");
        }
        DUE.call(x, "-2", "apply", 0, 0);
        DUE.reads(x, 0, "[5]");
        DUE.call(x, "8", "patches");
        DUE.call(x, "-2", "apply", 7, 0);
        x.forget();
        DUE.call(x, "7", "apply", 0, 0);
        DUE.reads(x, 0, "[5,5]");
        DUE.call(x, "1", "operations", 7);
        Build.document(x, 0, "n");
        DUE.call(x, "-1", "apply", 0, 0);
    }

    private static void failsAt() {
        MarlStore x = new MarlStore();
        x.addPatch();
        DUE.call(x, "-1", "failsAt", 0, 3);
        DUE.call(x, "1", "apply", 0, 3);
        DUE.call(x, "0", "operations", 1);
        Build.operation(x, 0, TEST, 0, "n");
        Build.operation(x, 0, SET, 0, "[]");
        Build.operation(x, 0, TEST, 0, "t");
        DUE.call(x, "2", "failsAt", 0, 3);
        DUE.call(x, "-1", "apply", 0, 3);
        DUE.call(x, "0", "kind");
        Build.document(x, 2, "t");
        DUE.call(x, "0", "failsAt", 0, 2);
    }

    private static void wrongNumbers() {
        MarlStore x = new MarlStore();
        for (String name : new String[] {"apply", "failsAt"}) {
            DUE.bounds(x, name, 0, 0);
        }
        DUE.bounds(x, "operations", 0);
        x.addPatch();
        for (String name : new String[] {"apply", "failsAt"}) {
            DUE.bounds(x, name, 1, 0);
            DUE.bounds(x, name, -1, 0);
            DUE.bounds(x, name, 0, 6);
            DUE.bounds(x, name, 0, -1);
            DUE.bounds(x, name, Integer.MAX_VALUE, Integer.MIN_VALUE);
        }
        DUE.bounds(x, "operations", 1);
        DUE.bounds(x, "operations", -1);
    }

    private static void diff() {
        String[][] all = {{"n", "n"}, {"[1,2,3]", "[1,3]"}, {"[1]", "[2,1,4]"}, {"{1:2}", "{1:3,4:5}"},
            {"{1:2,3:[]}", "{2:2,3:{}}"}, {"[[1,2],[3]]", "[[1],[2,3]]"}, {"5", "[5]"}};
        for (String[] pair : all) {
            MarlStore x = new MarlStore();
            Build.document(x, 2, pair[0]);
            Build.document(x, 3, pair[1]);
            DUE.call(x, "0", "diff", 2, 3);
            DUE.is("operations(0)", x.operations(0), x.changes(2, 3));
            DUE.call(x, "1", "apply", 0, 2);
            DUE.reads(x, 2, pair[1]);
            DUE.call(x, "2", "apply", 1, 2);
            DUE.reads(x, 2, pair[0]);
        }
        MarlStore x = new MarlStore();
        DUE.bounds(x, "diff", 6, 0);
        DUE.bounds(x, "diff", -1, 0);
        DUE.bounds(x, "diff", 0, 6);
        DUE.bounds(x, "diff", 0, -1);
        DUE.call(x, "0", "diff", 0, 0);
        DUE.call(x, "0", "operations", 0);
    }

    private static void diffIsFull() {
        MarlStore x = new MarlStore();
        Build.document(x, 0, "[]");
        Build.document(x, 1, nothings(20));
        Build.document(x, 2, nothings(21));
        DUE.call(x, "0", "diff", 0, 1);
        DUE.call(x, "20", "operations", 0);
        DUE.state(x, "diff", 0, 2);
        DUE.state(x, "diff", 2, 0);
        for (int i = 1; i < 8; i++) {
            DUE.call(x, "" + i, "diff", 1, 0);
        }
        DUE.state(x, "diff", 0, 0);
        DUE.bounds(x, "diff", 0, 6);
        x.forget();
        DUE.call(x, "7", "diff", 0, 0);
        DUE.call(x, "0", "operations", 7);
        DUE.call(x, "20", "operations", 6);
    }

    private static void ofOperation() {
        MarlStore x = new MarlStore();
        DUE.bounds(x, "ofOperation", 0, 0, 0);
        x.addPatch();
        DUE.bounds(x, "ofOperation", 0, 0, 9);
        Build.operation(x, 0, ADD, 17, "[n,n]", 3, 4);
        Build.operation(x, 0, DROP, 18, "[n,n,n]", 3);
        Build.operation(x, 0, SET, 19, "{5:[t]}");
        Build.operation(x, 0, TEST, 20, "{}", 1, 2, 3, 4, 5, 6);
        int[][] due = {{ADD, 2, 17, 3}, {DROP, 1, 18, 0}, {SET, 0, 0, 3}, {TEST, 6, 0, 1}};
        for (int i = 0; i < 4; i++) {
            for (int what = 0; what < 4; what++) {
                DUE.call(x, "" + due[i][what], "ofOperation", 0, i, what);
            }
            DUE.argument(x, "ofOperation", 0, i, -1);
            DUE.argument(x, "ofOperation", 0, i, 4);
        }
        DUE.bounds(x, "ofOperation", 0, 4, 0);
        DUE.bounds(x, "ofOperation", 0, -1, 0);
        DUE.bounds(x, "ofOperation", 1, 0, 0);
        DUE.bounds(x, "ofOperation", -1, 0, 4);
    }
}
