/** Promises 31 to 37: schemas. */
public final class SchemasTest {
    private static final Due DUE = new Due("SchemasTest");
    private static final String ALL = "[n,t,f,-9999,9999,[],{},{0:[n],99:{5:t}}]";

    public static void main(String[] args) {
        addSchema();
        setKinds();
        setChildren();
        setKey();
        kindsAreChecked();
        rangeIsChecked();
        countIsChecked();
        neededKeysAreChecked();
        ownSchemasAreChecked();
        itemsAreChecked();
        restIsChecked();
        schemasInThemselves();
        inOrder();
        pointFailure();
        fitting();
        wrongNumbers();
        DUE.end();
    }

    /** The FAILURES as "CODE@STEP.STEP", by pointFailure; their number is looked at too. */
    private static void failures(MarlStore x, int document, int schema, String... due) {
        DUE.is("check(" + document + ", " + schema + ")", x.check(document, schema), due.length);
        for (int i = 0; i < due.length; i++) {
            StringBuilder got = new StringBuilder();
            got.append(x.pointFailure(document, schema, i)).append('@');
            for (int j = 0; j < x.steps(); j++) {
                got.append(j > 0 ? "." : "").append(x.stepAt(j));
            }
            DUE.holds("failure " + i + " is " + got + ", due is " + due[i],
                    got.toString().equals(due[i]));
            DUE.is("document()", x.document(), document);
        }
        DUE.bounds(x, "pointFailure", document, schema, due.length);
        DUE.bounds(x, "pointFailure", document, schema, -1);
    }

    private static MarlStore with(String document, int schemas) {
        MarlStore x = new MarlStore();
        Build.document(x, 2, document);
        for (int i = 0; i < schemas; i++) {
            x.addSchema();
        }
        return x;
    }

    private static void addSchema() {
        MarlStore x = with(ALL, 0);
        for (int i = 0; i < 10; i++) {
            DUE.call(x, "" + i, "addSchema");
            failures(x, 2, i);
        }
        DUE.state(x, "addSchema");
        DUE.call(x, "63", "fitting", 9);
    }

    private static void setKinds() {
        MarlStore x = new MarlStore();
        DUE.bounds(x, "setKinds", 0, 99, 0, 0);
        x.addSchema();
        DUE.bounds(x, "setKinds", 1, 99, 0, 0);
        DUE.bounds(x, "setKinds", -1, 99, 0, 0);
        DUE.argument(x, "setKinds", 0, -1, 0, 0);
        DUE.argument(x, "setKinds", 0, 32, 0, 0);
        DUE.argument(x, "setKinds", 0, 0, -10000, 0);
        DUE.argument(x, "setKinds", 0, 0, 10000, 10000);
        DUE.argument(x, "setKinds", 0, 0, 5, 4);
        DUE.argument(x, "setKinds", 0, 0, 0, 10000);
        DUE.argument(x, "setKinds", 0, 0, Integer.MIN_VALUE, Integer.MAX_VALUE);
        DUE.call(x, "31", "setKinds", 0, 0, -9999, 9999);
        DUE.call(x, "0", "setKinds", 0, 31, 9999, 9999);
        DUE.call(x, "31", "setKinds", 0, 5, -9999, -9999);
        DUE.call(x, "5", "setKinds", 0, 31, 3, 3);
    }

    private static void setChildren() {
        MarlStore x = new MarlStore();
        DUE.bounds(x, "setChildren", 0, 60, 50, -1, -1);
        x.addSchema();
        x.addSchema();
        DUE.bounds(x, "setChildren", -1, 0, 50, -1, -1);
        DUE.bounds(x, "setChildren", 2, 60, 50, -1, -1);
        DUE.bounds(x, "setChildren", 0, 60, 50, 2, -1);
        DUE.bounds(x, "setChildren", 0, 60, 50, -2, -1);
        DUE.bounds(x, "setChildren", 0, 60, 50, -1, 2);
        DUE.bounds(x, "setChildren", 0, 60, 50, -1, -3);
        DUE.argument(x, "setChildren", 0, -1, 50, -1, -1);
        DUE.argument(x, "setChildren", 0, 51, 51, -1, -1);
        DUE.argument(x, "setChildren", 0, 0, 51, 0, 0);
        DUE.argument(x, "setChildren", 0, 3, 2, 1, -2);
        DUE.call(x, "-1", "setChildren", 0, 0, 0, 1, -2);
        DUE.call(x, "1", "setChildren", 0, 50, 50, 0, 1);
        DUE.call(x, "0", "setChildren", 0, 0, 50, -1, 0);
        DUE.call(x, "-1", "setChildren", 0, 0, 50, -1, -1);
        DUE.call(x, "63", "fitting", 0);
    }

    private static void setKey() {
        MarlStore x = new MarlStore();
        DUE.bounds(x, "setKey", 0, 100, 0, 1);
        x.addSchema();
        DUE.bounds(x, "setKey", 1, 100, 0, 1);
        DUE.bounds(x, "setKey", -1, 100, 0, 1);
        DUE.bounds(x, "setKey", 0, 100, 1, 1);
        DUE.bounds(x, "setKey", 0, 100, -1, 1);
        DUE.bounds(x, "setKey", 0, 5, -2, 1);
        DUE.argument(x, "setKey", 0, -1, 0, 1);
        DUE.argument(x, "setKey", 0, 100, 0, 0);
        DUE.call(x, "1", "setKey", 0, 99, 0, 0);
        DUE.call(x, "1", "setKey", 0, 99, 0, 1);
        DUE.call(x, "2", "setKey", 0, 0, 0, 0);
        DUE.call(x, "3", "setKey", 0, 50, 0, 0);
        DUE.call(x, "4", "setKey", 0, 51, 0, 0);
        DUE.state(x, "setKey", 0, 52, 0, 0);
        DUE.argument(x, "setKey", 0, 100, 0, 0);
        DUE.call(x, "4", "setKey", 0, 0, 0, 1);
        DUE.call(x, "4", "setKey", 0, 51, 0, 1);
        DUE.state(x, "setKey", 0, 1, 0, 1);
    }

    private static void kindsAreChecked() {
        String[] all = {"n", "t", "3", "[4,5]", "{1:4,2:5}"};
        for (int kind = 0; kind < 5; kind++) {
            MarlStore x = with(all[kind], 1);
            x.setKinds(0, 1 << kind, -9999, 9999);
            failures(x, 2, 0);
            x.setKinds(0, 31 - (1 << kind), 9, 9);
            x.setChildren(0, 10, 10, 0, -2);
            x.setKey(0, 7, 0, true);
            failures(x, 2, 0, "1@");
        }
    }

    private static void rangeIsChecked() {
        String[] all = {"-3", "-2", "0", "4", "5", "t", "n", "[]"};
        int[] due = {1, 0, 0, 0, 1, 0, 0, 0};
        for (int i = 0; i < all.length; i++) {
            MarlStore x = with(all[i], 1);
            x.setKinds(0, 31, -2, 4);
            failures(x, 2, 0, due[i] == 0 ? new String[0] : new String[] {"2@"});
        }
    }

    private static void countIsChecked() {
        String[] all = {"[]", "[n]", "[n,[n,n,n]]", "[n,n,n]", "[n,n,n,n]", "{}", "{3:n}",
            "{3:n,4:n}", "{3:n,4:n,5:n}", "{3:n,4:n,5:n,6:n}", "n", "5"};
        int[] due = {1, 1, 0, 0, 1, 1, 1, 0, 0, 1, 0, 0};
        for (int i = 0; i < all.length; i++) {
            MarlStore x = with(all[i], 1);
            x.setChildren(0, 2, 3, -1, -1);
            failures(x, 2, 0, due[i] == 0 ? new String[0] : new String[] {"3@"});
        }
    }

    private static void neededKeysAreChecked() {
        MarlStore x = with("{5:n,7:n}", 2);
        x.setKey(0, 9, 1, true);
        x.setKey(0, 5, 1, true);
        x.setKey(0, 2, 1, true);
        x.setKey(0, 8, 1, false);
        failures(x, 2, 0, "4@", "4@");
        Build.document(x, 2, "[[],{}]");
        failures(x, 2, 0);
        x.setKey(0, 5, 1, false);
        Build.document(x, 2, "{9:n,2:n}");
        failures(x, 2, 0);
        x.setChildren(1, 0, 50, 0, -1);
        Build.document(x, 2, "[n,{2:n},[],{9:n}]");
        failures(x, 2, 1, "4@1", "4@3");
    }

    private static void ownSchemasAreChecked() {
        MarlStore x = with("{2:n,5:n,8:n,9:n}", 5);
        int[] keys = {8, 5, 9, 2};
        for (int i = 1; i <= 4; i++) {
            x.setKinds(i, 2, -9999, 9999);
            x.setKey(0, keys[i - 1], i, i > 2);
        }
        failures(x, 2, 0, "1@2", "1@5", "1@8", "1@9");
        x.setKinds(2, 1, -9999, 9999);
        failures(x, 2, 0, "1@2", "1@8", "1@9");
        x.setKinds(4, 1, -9999, 9999);
        failures(x, 2, 0, "1@8", "1@9");
        x.setKinds(1, 1, -9999, 9999);
        failures(x, 2, 0, "1@9");
        Build.document(x, 2, "{8:t,5:t}");
        failures(x, 2, 0, "4@", "4@", "1@5", "1@8");
    }

    private static void itemsAreChecked() {
        MarlStore x = with("[1,[2],{3:4},n,[[1]]]", 2);
        x.setKinds(1, 4, -9999, 9999);
        x.setChildren(0, 0, 50, 1, -1);
        failures(x, 2, 0, "1@1", "1@2", "1@3", "1@4");
        x.setChildren(0, 0, 50, -1, 1);
        failures(x, 2, 0);
        x.setChildren(0, 0, 50, 0, 1);
        failures(x, 2, 0);
        x.setKinds(1, 8, -9999, 9999);
        failures(x, 2, 0, "1@2.3");
    }

    private static void restIsChecked() {
        MarlStore x = with("{3:n,5:n,8:{1:{1:n}}}", 3);
        x.setKinds(1, 2, -9999, 9999);
        x.setKey(0, 5, 2, false);
        x.setChildren(0, 0, 50, -1, 1);
        failures(x, 2, 0, "1@3", "1@8");
        x.setChildren(0, 0, 50, 1, -2);
        failures(x, 2, 0, "5@3", "5@8");
        x.setChildren(0, 0, 50, 1, -1);
        failures(x, 2, 0);
        x.setKey(0, 5, 1, true);
        failures(x, 2, 0, "1@5");
        Build.document(x, 2, "[n,{5:n}]");
        x.setChildren(0, 0, 50, -1, -2);
        failures(x, 2, 0);
    }

    private static void schemasInThemselves() {
        MarlStore x = with("{1:{1:{1:{1:{1:{1:n}}}}}}", 1);
        x.setKinds(0, 16, -9999, 9999);
        x.setKey(0, 1, 0, true);
        x.setChildren(0, 1, 1, 0, -2);
        failures(x, 2, 0, "1@1.1.1.1.1.1");
        Build.document(x, 2, "{1:{1:{}}}");
        failures(x, 2, 0, "3@1.1", "4@1.1");
        Build.document(x, 2, "{0:{1:{}},1:{1:{2:n}},2:{}}");
        failures(x, 2, 0, "3@", "5@0", "4@1.1", "5@1.1.2", "5@2");
    }

    private static void inOrder() {
        MarlStore x = with("[{1:50,4:[n,t]},60,{},[3,4]]", 3);
        x.setKinds(0, 30, -10, 10);
        x.setChildren(0, 1, 3, 0, 0);
        x.setKey(0, 2, 1, true);
        x.setKey(0, 4, 2, true);
        x.setKinds(1, 31, 0, 0);
        x.setChildren(2, 3, 50, 0, -1);
        failures(x, 2, 0, "3@", "4@0", "2@0.1", "3@0.4", "1@0.4.0", "2@1", "3@2", "4@2", "4@2");
    }

    private static void pointFailure() {
        MarlStore x = with("[n,[n]]", 2);
        x.setKinds(1, 2, -9999, 9999);
        x.setChildren(0, 0, 50, 0, 1);
        DUE.bounds(x, "pointFailure", 2, 0, 0);
        x.setChildren(1, 0, 50, 1, 1);
        x.setChildren(0, 0, 50, 1, 1);
        x.point(4);
        DUE.call(x, "1", "pointFailure", 2, 0, 1);
        DUE.is("document()", x.document(), 2);
        DUE.is("kind()", x.kind(), 3);
        DUE.call(x, "1", "pointFailure", 2, 0, 0);
        DUE.is("kind()", x.kind(), 0);
        DUE.call(x, "1", "pointFailure", 0, 1, 0);
        DUE.is("document()", x.document(), 0);
        DUE.is("steps()", x.steps(), 0);
        DUE.bounds(x, "pointFailure", 2, 0, 2);
        DUE.bounds(x, "pointFailure", 2, 0, Integer.MAX_VALUE);
        DUE.bounds(x, "pointFailure", 2, 0, Integer.MIN_VALUE);
    }

    private static void fitting() {
        MarlStore x = new MarlStore();
        x.addSchema();
        x.addSchema();
        DUE.call(x, "63", "fitting", 1);
        x.setKinds(1, 12, 1, 2);
        DUE.call(x, "0", "fitting", 1);
        Build.document(x, 5, "[0]");
        DUE.call(x, "32", "fitting", 1);
        Build.document(x, 0, "2");
        Build.document(x, 1, "3");
        DUE.call(x, "33", "fitting", 1);
        x.setChildren(1, 0, 50, 1, -1);
        DUE.call(x, "1", "fitting", 1);
        DUE.call(x, "63", "fitting", 0);
    }

    private static void wrongNumbers() {
        MarlStore x = new MarlStore();
        DUE.bounds(x, "check", 0, 0);
        DUE.bounds(x, "pointFailure", 0, 0, 0);
        DUE.bounds(x, "fitting", 0);
        x.addSchema();
        x.setKinds(0, 0, 0, 0);
        DUE.call(x, "1", "check", 5, 0);
        DUE.call(x, "1", "pointFailure", 5, 0, 0);
        int[][] wrong = {{-1, 0}, {6, 0}, {0, -1}, {0, 1}, {0, 10}, {9, 9}};
        for (int[] one : wrong) {
            DUE.bounds(x, "check", one);
            DUE.bounds(x, "pointFailure", one[0], one[1], 0);
        }
        DUE.bounds(x, "fitting", 1);
        DUE.bounds(x, "fitting", -1);
        DUE.bounds(x, "fitting", 10);
    }
}
