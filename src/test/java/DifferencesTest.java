/** Promises 29 and 30: differences. */
public final class DifferencesTest {
    private static final Due DUE = new Due("DifferencesTest");

    public static void main(String[] args) {
        ofPlainValues();
        ofObjects();
        ofLists();
        ofTheSameDocument();
        pairsFirst();
        ofLargeLists();
        ofNests();
        wrongNumbers();
        DUE.end();
    }

    /** What is due from the one to the other, and OPERATIONS there and back. */
    private static void between(String one, String other, int difference, int there, int back) {
        MarlStore x = new MarlStore();
        Build.document(x, 1, one);
        Build.document(x, 4, other);
        DUE.is("difference of " + one + " and " + other, x.difference(1, 4), difference);
        DUE.is("difference of " + other + " and " + one, x.difference(4, 1), difference);
        DUE.is("changes from " + one + " to " + other, x.changes(1, 4), there);
        DUE.is("changes from " + other + " to " + one, x.changes(4, 1), back);
    }

    private static void ofPlainValues() {
        between("n", "n", 0, 0, 0);
        between("t", "t", 0, 0, 0);
        between("-7", "-7", 0, 0, 0);
        between("t", "f", 2, 1, 1);
        between("1", "2", 2, 1, 1);
        between("n", "f", 2, 1, 1);
        between("t", "1", 2, 1, 1);
        between("n", "[n,n]", 4, 1, 1);
        between("[]", "{}", 2, 1, 1);
        between("[5]", "{0:5}", 4, 1, 1);
    }

    private static void ofObjects() {
        between("{}", "{}", 0, 0, 0);
        between("{1:2}", "{}", 1, 1, 1);
        between("{1:2}", "{2:2}", 2, 2, 2);
        between("{1:2,3:[n,n]}", "{1:2}", 3, 1, 1);
        between("{1:2,3:[n,n]}", "{1:4,3:[n]}", 3, 2, 2);
        between("{0:n,5:n,99:n}", "{5:n}", 2, 2, 2);
        between("{4:{5:{6:1}}}", "{4:{5:{7:1}}}", 2, 2, 2);
    }

    private static void ofLists() {
        between("[]", "[]", 0, 0, 0);
        between("[1,2,3]", "[1,3]", 1, 1, 1);
        between("[1,2,3]", "[2,3,4]", 2, 2, 2);
        between("[1]", "[2]", 2, 1, 1);
        between("[1,2]", "[2,1]", 2, 2, 2);
        between("[[1,2,3],4]", "[[1,3],4]", 1, 1, 1);
        between("[[1,2,3],[4,5,6]]", "[[4,5,6]]", 4, 1, 1);
        between("[[1,2],[3,4]]", "[[1],[3]]", 2, 2, 2);
        between("[[n,n,n]]", "[{1:n}]", 6, 1, 1);
        between("[{1:2,3:4},5]", "[5,{1:2}]", 3, 3, 3);
    }

    private static void ofTheSameDocument() {
        MarlStore x = new MarlStore();
        Build.document(x, 3, "[1,{2:3,5:[]},[t]]");
        DUE.call(x, "0", "difference", 3, 3);
        DUE.call(x, "0", "changes", 3, 3);
        DUE.call(x, "7", "size", 3);
        DUE.call(x, "8", "difference", 0, 3);
        DUE.call(x, "1", "changes", 0, 3);
    }

    private static void codes(String one, String other, int[][] due) {
        MarlStore x = new MarlStore();
        Build.document(x, 0, one);
        Build.document(x, 1, other);
        x.diff(0, 1);
        DUE.is("operations from " + one + " to " + other, x.operations(0), due.length);
        for (int i = 0; i < due.length; i++) {
            for (int what = 0; what < 4; what++) {
                DUE.call(x, "" + due[i][what], "ofOperation", 0, i, what);
            }
        }
        DUE.call(x, "1", "apply", 0, 0);
        DUE.holds("from " + one + " to " + other, Build.read(x, 0).equals(other));
    }

    /** A pair comes ahead of DROP, this ahead of ADD, if they are as good. */
    private static void pairsFirst() {
        codes("[1]", "[2]", new int[][] {{2, 1, 0, 1}});
        codes("[1,2]", "[2,1]", new int[][] {{1, 0, 0, 0}, {0, 0, 1, 1}});
        codes("[1,2]", "[3,4]", new int[][] {{2, 1, 0, 1}, {2, 1, 0, 1}});
        codes("[1]", "[2,1]", new int[][] {{0, 0, 0, 1}});
        codes("[1,2]", "[2]", new int[][] {{1, 0, 0, 0}});
        codes("[n,n]", "[n]", new int[][] {{1, 0, 1, 0}});
        codes("[n]", "[n,n,n]", new int[][] {{0, 0, 1, 1}, {0, 0, 2, 1}});
        codes("[1,2,3]", "[]", new int[][] {{1, 0, 0, 0}, {1, 0, 0, 0}, {1, 0, 0, 0}});
        codes("[[1,2]]", "[7,[1,3]]", new int[][] {{0, 0, 0, 1}, {2, 2, 0, 1}});
        codes("{1:[n],2:t}", "{0:5,1:[],2:f}",
                new int[][] {{0, 0, 0, 1}, {1, 1, 0, 0}, {2, 1, 0, 1}});
        codes("{1:n,3:n}", "{2:[n],4:n}",
                new int[][] {{1, 0, 1, 0}, {0, 0, 2, 2}, {1, 0, 3, 0}, {0, 0, 4, 1}});
        codes("[{1:2,3:4},5]", "[5,{1:2}]",
                new int[][] {{0, 0, 0, 1}, {1, 1, 3, 0}, {1, 0, 2, 0}});
    }

    private static String numbers(int from, int count) {
        StringBuilder all = new StringBuilder("[");
        for (int i = from; i < from + count; i++) {
            all.append(i == from ? "" : ",").append(i);
        }
        return all.append(']').toString();
    }

    private static void ofLargeLists() {
        between(numbers(0, 49), numbers(1, 49), 2, 2, 2);
        between(numbers(0, 49), numbers(49, 49), 98, 49, 49);
        between(numbers(0, 49), "[]", 49, 49, 49);
        between("[" + numbers(0, 23) + "," + numbers(30, 24) + "]",
                "[" + numbers(30, 23) + "," + numbers(1, 24) + "]", 50, 3, 3);
    }

    private static void ofNests() {
        between("[[[[[[1]]]]]]", "[[[[[[2]]]]]]", 2, 1, 1);
        between("[[[[[[]]]]]]", "[[[[[[2]]]]]]", 1, 1, 1);
        between("{1:[{2:[{3:[]}]}]}", "{1:[{2:[{4:[]}]}]}", 2, 2, 2);
        between("[[[[[[1]]]]]]", "[]", 6, 1, 1);
    }

    private static void wrongNumbers() {
        MarlStore x = new MarlStore();
        for (String name : new String[] {"difference", "changes"}) {
            DUE.bounds(x, name, 6, 0);
            DUE.bounds(x, name, -1, 0);
            DUE.bounds(x, name, 0, 6);
            DUE.bounds(x, name, 0, -1);
            DUE.call(x, "0", name, 5, 0);
        }
    }
}
