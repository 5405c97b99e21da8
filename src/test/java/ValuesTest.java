/** Promises 8 to 19: values at the pointer. */
public final class ValuesTest {
    private static final Due DUE = new Due("ValuesTest");
    private static final String FIFTY = "[[n,n,n,n,n,n,n,n,n,n,n,n,n,n,n,n,n,n,n,n,n,n,n],"
            + "[n,n,n,n,n,n,n,n,n,n,n,n,n,n,n,n,n,n,n,n,n,n,n,n]]";

    public static void main(String[] args) {
        set();
        copyIsApart();
        paste();
        insertIntoLists();
        insertIntoObjects();
        insertAtTheLimits();
        drop();
        whatIsThere();
        childStep();
        sizeAndDepth();
        DUE.end();
    }

    private static void set() {
        MarlStore x = new MarlStore();
        DUE.argument(x, "set", -1, 0);
        DUE.argument(x, "set", 5, 0);
        DUE.argument(x, "set", 1, 2);
        DUE.argument(x, "set", 1, -1);
        DUE.argument(x, "set", 2, 10000);
        DUE.argument(x, "set", 2, -10000);
        DUE.argument(x, "set", Integer.MIN_VALUE, 0);
        DUE.call(x, "1", "set", 2, 9999);
        DUE.call(x, "9999", "number");
        DUE.call(x, "1", "set", 2, -9999);
        DUE.call(x, "-9999", "number");
        DUE.call(x, "1", "set", 1, 1);
        DUE.call(x, "1", "number");
        DUE.call(x, "1", "set", 1, 0);
        DUE.call(x, "0", "number");
        DUE.call(x, "1", "set", 3, 10000);
        DUE.call(x, "3", "kind");
        DUE.call(x, "-10000", "number");
        DUE.call(x, "1", "set", 4, -20000);
        DUE.call(x, "4", "kind");
        DUE.call(x, "1", "set", 0, 77777);
        DUE.call(x, "-10000", "number");
        Build.document(x, 0, "[n,[t,f,{5:n}],3]");
        Build.document(x, 1, "[t,[f]]");
        x.point(0);
        x.into(1);
        DUE.call(x, "5", "set", 4, 0);
        DUE.is("steps()", x.steps(), 1);
        DUE.holds("set in place", Build.read(x, 0).equals("[n,{},3]"));
        DUE.call(x, "4", "set", 0, 0);
        DUE.is("size(0)", x.size(0), 1);
    }

    private static void copyIsApart() {
        MarlStore x = new MarlStore();
        Build.document(x, 0, "[n,[t,{5:8}]]");
        x.into(1);
        DUE.call(x, "4", "copy");
        DUE.call(x, "4", "clip");
        x.into(0);
        x.set(2, 5);
        x.point(1);
        DUE.call(x, "4", "paste");
        DUE.holds("the clip is as it was", Build.read(x, 1).equals("[t,{5:8}]"));
        x.set(0, 0);
        DUE.call(x, "4", "clip");
        DUE.call(x, "1", "copy");
        DUE.call(x, "1", "clip");
        DUE.holds("what was copied is as it was", Build.read(x, 0).equals("[n,[5,{5:8}]]"));
    }

    private static void paste() {
        MarlStore x = new MarlStore();
        Build.clip(x, 5, "[n,n]");
        Build.document(x, 0, "{1:{2:t},9:4}");
        x.point(5);
        x.set(4, 0);
        x.copy();
        x.point(0);
        x.into(1);
        DUE.call(x, "3", "paste");
        DUE.is("steps()", x.steps(), 1);
        DUE.holds("pasted", Build.read(x, 0).equals("{1:{},9:4}"));
        Build.clip(x, 5, FIFTY);
        x.point(0);
        x.into(1);
        DUE.call(x, "-1", "paste");
        DUE.is("steps()", x.steps(), 1);
        DUE.holds("not pasted", Build.read(x, 0).equals("{1:{},9:4}"));
        DUE.call(x, "50", "paste");
        Build.clip(x, 5, "[[[[[[n]]]]]]");
        Build.document(x, 0, "[n]");
        x.point(5);
        x.paste();
        Build.clip(x, 4, "[[[[[[n]]]]]]");
        x.point(0);
        DUE.call(x, "7", "paste");
        x.into(0);
        DUE.call(x, "-1", "paste");
        x.up();
        Build.clip(x, 5, "[[[[[n]]]]]");
        x.point(0);
        x.into(0);
        DUE.call(x, "7", "paste");
        DUE.is("depth(0)", x.depth(0), 7);
    }

    private static void insertIntoLists() {
        MarlStore x = new MarlStore();
        DUE.call(x, "-1", "insert", 0);
        x.set(2, 4);
        DUE.call(x, "-1", "insert", 0);
        x.set(3, 0);
        DUE.call(x, "-1", "insert", 1);
        DUE.call(x, "-1", "insert", -1);
        clipNumber(x, 1);
        DUE.call(x, "2", "insert", 0);
        clipNumber(x, 2);
        DUE.call(x, "3", "insert", 0);
        clipNumber(x, 3);
        DUE.call(x, "4", "insert", 2);
        clipNumber(x, 4);
        DUE.call(x, "5", "insert", 1);
        DUE.call(x, "-1", "insert", 5);
        DUE.call(x, "-1", "insert", Integer.MAX_VALUE);
        DUE.holds("the places", Build.read(x, 0).equals("[2,4,1,3]"));
    }

    private static void clipNumber(MarlStore x, int number) {
        Build.clip(x, 5, "" + number);
        x.point(0);
    }

    private static void insertIntoObjects() {
        MarlStore x = new MarlStore();
        x.set(4, 0);
        DUE.call(x, "-1", "insert", -1);
        DUE.call(x, "-1", "insert", 100);
        clipNumber(x, 1);
        DUE.call(x, "2", "insert", 50);
        DUE.call(x, "-1", "insert", 50);
        clipNumber(x, 2);
        DUE.call(x, "3", "insert", 99);
        clipNumber(x, 3);
        DUE.call(x, "4", "insert", 0);
        clipNumber(x, 4);
        DUE.call(x, "5", "insert", 51);
        DUE.holds("by keys", Build.read(x, 0).equals("{0:3,50:1,51:4,99:2}"));
        x.into(50);
        DUE.call(x, "-1", "insert", 0);
    }

    private static void insertAtTheLimits() {
        MarlStore x = new MarlStore();
        Build.document(x, 0, FIFTY);
        DUE.is("size(0)", x.size(0), 50);
        x.into(0);
        DUE.call(x, "-1", "insert", 0);
        DUE.call(x, "49", "drop", 22);
        DUE.call(x, "50", "insert", 0);
        DUE.call(x, "-1", "insert", 23);
        Build.document(x, 1, "{3:[[[[[]]]]]}");
        Build.clip(x, 5, "[]");
        x.point(1);
        int[] path = {3, 0, 0, 0, 0};
        for (int step : path) {
            x.into(step);
        }
        DUE.call(x, "7", "insert", 0);
        x.into(0);
        DUE.call(x, "-1", "insert", 0);
        DUE.is("depth(1)", x.depth(1), 7);
        DUE.is("steps()", x.steps(), 6);
    }

    private static void drop() {
        MarlStore x = new MarlStore();
        DUE.call(x, "-1", "drop", 0);
        Build.document(x, 0, "[1,{5:n,7:[t,f]},3,4]");
        DUE.call(x, "-1", "drop", 4);
        DUE.call(x, "-1", "drop", -1);
        DUE.call(x, "8", "drop", 2);
        DUE.holds("those behind come ahead", Build.read(x, 0).equals("[1,{5:n,7:[t,f]},4]"));
        x.into(1);
        DUE.call(x, "-1", "drop", 0);
        DUE.call(x, "-1", "drop", 6);
        DUE.call(x, "5", "drop", 7);
        DUE.is("steps()", x.steps(), 1);
        DUE.call(x, "4", "drop", 5);
        DUE.call(x, "4", "kind");
        x.up();
        DUE.call(x, "3", "drop", 0);
        DUE.holds("the first goes", Build.read(x, 0).equals("[{},4]"));
    }

    private static void whatIsThere() {
        MarlStore x = new MarlStore();
        Build.document(x, 2, "[n,t,-12,[f],{40:n,3:7}]");
        int[][] due = {{0, -10000, 0}, {1, 1, 0}, {2, -12, 0}, {3, -10000, 1}, {4, -10000, 2}};
        for (int i = 0; i < 5; i++) {
            x.into(i);
            DUE.is("kind() of " + i, x.kind(), due[i][0]);
            DUE.is("number() of " + i, x.number(), due[i][1]);
            DUE.is("children() of " + i, x.children(), due[i][2]);
            x.up();
        }
        DUE.is("children()", x.children(), 5);
    }

    private static void childStep() {
        MarlStore x = new MarlStore();
        DUE.bounds(x, "childStep", 0);
        Build.document(x, 2, "[n,{40:n,3:7,99:t}]");
        DUE.call(x, "0", "childStep", 0);
        DUE.call(x, "1", "childStep", 1);
        DUE.bounds(x, "childStep", 2);
        DUE.bounds(x, "childStep", -1);
        x.into(1);
        DUE.call(x, "3", "childStep", 0);
        DUE.call(x, "40", "childStep", 1);
        DUE.call(x, "99", "childStep", 2);
        DUE.bounds(x, "childStep", 3);
        DUE.bounds(x, "childStep", 40);
    }

    private static void sizeAndDepth() {
        MarlStore x = new MarlStore();
        Build.document(x, 1, "[n,{4:[]},t]");
        DUE.call(x, "5", "size", 1);
        DUE.call(x, "3", "depth", 1);
        Build.document(x, 5, "{}");
        DUE.call(x, "1", "size", 5);
        DUE.call(x, "1", "depth", 5);
        for (String name : new String[] {"size", "depth"}) {
            DUE.bounds(x, name, -1);
            DUE.bounds(x, name, 6);
        }
    }
}
