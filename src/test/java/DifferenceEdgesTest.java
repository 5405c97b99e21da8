/** The boundary cases that promises 24, 29 and 30, and term 3, name: a test for each. */
public final class DifferenceEdgesTest {
    private static final Due DUE = new Due("DifferenceEdgesTest");
    private static final int MIN = Integer.MIN_VALUE;
    private static final int MAX = Integer.MAX_VALUE;
    private static final String NONE = "";

    public static void main(String[] args) {
        ofTheSame();
        ofTheSameDocument();
        ofEmptyObjects();
        ofObjectsWithoutCommonKeys();
        ofObjectsWithTheSameKeys();
        ofTheLeastAndGreatestKeys();
        ofEmptyLists();
        ofListsWithoutPairs();
        ofListsInPairs();
        ofSomeChildrenInPairs();
        ofDifferentKinds();
        theLeast();
        theGreatest();
        changesBeyondTwenty();
        operationsOfTheSame();
        operationsOfObjects();
        operationsOfEmptyLists();
        aPairComesFirst();
        dropComesAheadOfAdd();
        addOtherwise();
        setOfAnythingElse();
        operationsAtTheGreatestDepth();
        noSuchDocument();
        DUE.end();
    }

    private static MarlStore with(String one, String other) {
        MarlStore x = new MarlStore();
        Build.document(x, 0, one);
        Build.document(x, 5, other);
        return x;
    }

    private static void differ(String one, String other, int due) {
        MarlStore x = with(one, other);
        DUE.is("the difference of " + one + " and " + other, x.difference(0, 5), due);
        DUE.is("the difference of " + other + " and " + one, x.difference(5, 0), due);
    }

    /** The PATCH has these OPERATIONS, told as "code:STEPS:STEP:SIZE" with blanks between. */
    private static void written(String one, String other, String due) {
        MarlStore x = with(one, other);
        int count = due.isEmpty() ? 0 : due.split(" ").length;
        DUE.call(x, count, "changes", 0, 5);
        DUE.call(x, 0, "diff", 0, 5);
        DUE.call(x, count, "operations", 0);
        StringBuilder got = new StringBuilder();
        for (int i = 0; i < x.operations(0); i++) {
            got.append(i > 0 ? " " : "").append(x.ofOperation(0, i, 0));
            for (int what = 1; what < 4; what++) {
                got.append(':').append(x.ofOperation(0, i, what));
            }
        }
        DUE.is("the patch from " + one + " to " + other, got.toString(), due);
        DUE.call(x, 1, "apply", 0, 0);
        DUE.reads(x, 0, other);
        DUE.call(x, 2, "apply", 1, 0);
        DUE.reads(x, 0, one);
    }

    private static void ofTheSame() {
        DUE.sentence("T3", "0, if they are the SAME");
        String[] all = {"n", "f", "t", "0", "1", "-9999", "9999", "[]", "{}", "[n]", "{0:n}",
            "[{99:[t,5]},[]]", Build.list(49, "n"), Build.object(0, 49, "n"), Build.nested(7)};
        for (String one : all) {
            differ(one, one, 0);
        }
    }

    private static void ofTheSameDocument() {
        DUE.sentence("29", "another one, or the same");
        MarlStore x = with("[1,{4:[t]}]", "{}");
        DUE.call(x, 0, "difference", 0, 0);
        DUE.call(x, 0, "difference", 5, 5);
        DUE.call(x, 0, "difference", 1, 4);
        DUE.sentence("30", "another one, or the same");
        DUE.call(x, 0, "changes", 0, 0);
        DUE.call(x, 0, "changes", 5, 5);
        DUE.call(x, 0, "changes", 1, 4);
    }

    private static void ofEmptyObjects() {
        DUE.sentence("T3", "for each other one the SIZE of its VALUE");
        differ("{}", "{}", 0);
        differ("{}", "{0:n}", 1);
        differ("{}", "{0:[n,n],99:{5:t}}", 5);
        differ("{}", Build.object(0, 49, "n"), 49);
    }

    private static void ofObjectsWithoutCommonKeys() {
        DUE.sentence("T3", "of two OBJECTS");
        differ("{0:n}", "{1:n}", 2);
        differ("{0:[n]}", "{99:[n]}", 4);
        differ(Build.object(0, 49, "n"), Build.object(49, 49, "n"), 98);
        differ(Build.object(0, 49, "n"), Build.object(48, 49, "n"), 96);
    }

    private static void ofObjectsWithTheSameKeys() {
        DUE.sentence("T3", "for each KEY that both have, the DIFFERENCE of its VALUES");
        differ("{5:1}", "{5:2}", 2);
        differ("{5:[1,2]}", "{5:[1]}", 1);
        differ("{5:{6:[n]}}", "{5:{6:{0:n}}}", 4);
        differ(Build.object(0, 49, "f"), Build.object(0, 49, "t"), 98);
    }

    private static void ofTheLeastAndGreatestKeys() {
        DUE.sentence("T1", "it has a VALUE for each of some KEYS (0 to 99)");
        differ("{0:n,99:n}", "{0:n}", 1);
        differ("{0:n,99:n}", "{99:n}", 1);
        differ("{0:t,99:n}", "{0:n,99:[n]}", 5);
        differ("{0:t}", "{99:t}", 2);
    }

    private static void ofEmptyLists() {
        DUE.sentence("T3", "and the SIZES of all other CHILDREN of both");
        differ("[]", "[]", 0);
        differ("[]", "[n]", 1);
        differ("[]", "[[n,n],t,{9:t}]", 6);
        differ("[]", Build.list(49, "n"), 49);
        differ("[[]]", "[]", 1);
    }

    /** No pair is of use: it would be no less than both for themselves. */
    private static void ofListsWithoutPairs() {
        DUE.sentence("T3", "of two LISTS the least sum");
        differ("[1]", "[[]]", 2);
        differ("[1,2,3]", "[n,t]", 5);
        differ("[[1,2]]", "[{0:1}]", 5);
        differ(Build.list(49, "f"), Build.list(49, "t"), 98);
    }

    private static void ofListsInPairs() {
        DUE.sentence("T3", "both in order, in pairs, the DIFFERENCE of each pair");
        differ("[1,2]", "[2,1]", 2);
        differ("[1,2,3]", "[3,2,1]", 4);
        differ("[[1,2,3],[4,5,6]]", "[[4,5,6],[1,2,3]]", 8);
        differ("[[1,2],[3,4]]", "[[1],[3]]", 2);
        differ(Build.list(49, "n"), Build.list(49, "n"), 0);
    }

    private static void ofSomeChildrenInPairs() {
        DUE.sentence("T3", "of some CHILDREN of a and as many of b");
        differ("[1,2,3]", "[2,3,4]", 2);
        differ("[1,2,3]", "[0,1,2,3]", 1);
        differ("[1,2,3]", "[1,2,3,4]", 1);
        differ("[[1,2,3],t]", "[t,[1,2],f]", 4);
        differ("[t,[1,2,3]]", "[[2,3],f,f]", 4);
        differ(Build.list(49, "n"), Build.list(1, "n"), 48);
    }

    private static void ofDifferentKinds() {
        DUE.sentence("T3", "otherwise the SIZES of both");
        String[] all = {"n", "f", "0", "[]", "{}"};
        for (String one : all) {
            for (String other : all) {
                differ(one, other, one.equals(other) ? 0 : 2);
            }
        }
        differ("f", "t", 2);
        differ("1", "-1", 2);
        differ("t", "1", 2);
        differ("[n]", "{0:n}", 4);
        differ(Build.list(49, "n"), Build.object(0, 49, "n"), 100);
        differ("n", Build.list(49, "n"), 51);
        differ(Build.nested(7), "{}", 8);
    }

    private static void theLeast() {
        DUE.sentence("29", "Returns the DIFFERENCE of both");
        differ("[[[[[[n]]]]]]", Build.nested(6), 1);
        differ(Build.nested(7), Build.nested(6), 1);
        differ(Build.nested(7), "[]", 6);
        differ("[[[[[[1]]]]]]", "[[[[[[2]]]]]]", 2);
        differ("[[[[[[1]]]]]]", "[[[[[{}]]]]]", 3);
    }

    private static void theGreatest() {
        DUE.sentence("T1", "it has a SIZE up to 50");
        String half = Build.list(23, "f") + "," + Build.list(24, "t");
        String other = Build.list(24, "f") + "," + Build.list(23, "t");
        differ("[" + half + "]", "[" + other + "]", 2);
        differ("[" + half + "]", "[]", 49);
        differ("[" + half + "]", "{}", 51);
        String nests = Build.list(7, "[[[[[n]]]]]");
        differ(nests, nests.replace('n', 't'), 14);
    }

    private static void changesBeyondTwenty() {
        DUE.sentence("30", "(also more than 20)");
        int[] counts = {0, 1, 19, 20, 21, 49};
        for (int count : counts) {
            MarlStore x = with("{}", Build.object(0, count, "n"));
            DUE.call(x, count, "changes", 0, 5);
            DUE.call(x, count, "changes", 5, 0);
        }
        MarlStore x = with(Build.object(0, 49, "n"), Build.object(49, 49, "n"));
        DUE.call(x, 98, "changes", 0, 5);
        DUE.state(x, "diff", 0, 5);
        x = with(Build.list(49, "f"), Build.list(49, "t"));
        DUE.call(x, 49, "changes", 0, 5);
        DUE.state(x, "diff", 0, 5);
        DUE.call(x, 0, "patches");
    }

    private static void operationsOfTheSame() {
        DUE.sentence("T3", "at a PATH at which a and b are the SAME, none");
        written("n", "n", NONE);
        written("[]", "[]", NONE);
        written("{}", "{}", NONE);
        written("[[1,{2:t}]]", "[[1,{2:t}]]", NONE);
        written("{1:[n],2:f}", "{1:[n],2:t}", "2:1:0:1");
        written("[[n],f]", "[[n],t]", "2:1:0:1");
    }

    private static void operationsOfObjects() {
        DUE.sentence("T3", "in order: for one that only a has DROP, only b ADD");
        written("{}", "{0:n,99:[n]}", "0:0:0:1 0:0:99:2");
        written("{0:n,99:[n]}", "{}", "1:0:0:0 1:0:99:0");
        written("{1:n,3:n}", "{0:n,2:n,4:n}", "0:0:0:1 1:0:1:0 0:0:2:1 1:0:3:0 0:0:4:1");
        written("{0:n,99:n}", "{0:t,99:t}", "2:1:0:1 2:1:0:1");
        DUE.sentence("T3", "both have what comes of these two at the PATH with the KEY");
        written("{0:{},99:{5:n}}", "{0:{7:n},99:{}}", "0:1:7:1 1:1:5:0");
    }

    private static void operationsOfEmptyLists() {
        DUE.sentence("T3", "as long as one of both has any left");
        written("[]", "[1,2,3]", "0:0:0:1 0:0:1:1 0:0:2:1");
        written("[1,2,3]", "[]", "1:0:0:0 1:0:0:0 1:0:0:0");
        written("[1]", "[1,2,[n]]", "0:0:1:1 0:0:2:2");
        written("[1,2,[n]]", "[1]", "1:0:1:0 1:0:1:0");
        written("[[]]", "[[n]]", "0:1:0:1");
        written("[[n]]", "[[]]", "1:1:0:0");
    }

    private static void aPairComesFirst() {
        DUE.sentence("T3", "then what comes of these two at the PATH with the STEP j");
        written("[1]", "[2]", "2:1:0:1");
        written("[n]", "[{}]", "2:1:0:1");
        written("[1,2]", "[3,4,5]", "2:1:0:1 2:1:0:1 0:0:2:1");
        written("[1,2,3]", "[4,5]", "2:1:0:1 2:1:0:1 1:0:2:0");
        written("[n,n]", "[n]", "1:0:1:0");
        written("[n]", "[n,n]", "0:0:1:1");
        written("[[1],[1]]", "[[1]]", "1:0:1:0");
        written("[5,[1]]", "[6,[2]]", "2:1:0:1 2:2:0:1");
    }

    private static void dropComesAheadOfAdd() {
        DUE.sentence("T3", "DROP at the STEP j, and i is 1 more");
        written("[1,2]", "[2,1]", "1:0:0:0 0:0:1:1");
        written("[1,2]", "[2]", "1:0:0:0");
        written("[1,2,3]", "[3]", "1:0:0:0 1:0:0:0");
        written("[1,2,3]", "[1,3,4]", "1:0:1:0 0:0:2:1");
        written("[[n,n],5]", "[5,[n,n]]", "0:0:0:1 1:0:2:0");
    }

    private static void addOtherwise() {
        DUE.sentence("T3", "otherwise ADD of the next one of b at the STEP j, and j is 1 more");
        written("[2]", "[1,2]", "0:0:0:1");
        written("[2]", "[[1],{},2]", "0:0:0:2 0:0:1:1");
        written("[3,2]", "[3,1,2]", "0:0:1:1");
        written("[[1,2],3]", "[9,[1,2],3]", "0:0:0:1");
        written("[[1,2]]", "[9,[1,3]]", "0:0:0:1 2:2:0:1");
    }

    private static void setOfAnythingElse() {
        DUE.sentence("T3", "at which it is anything else, SET to what b has there");
        written("n", "t", "2:0:0:1");
        written("f", "t", "2:0:0:1");
        written("-9999", "9999", "2:0:0:1");
        written("[]", "{}", "2:0:0:1");
        written("{}", "[]", "2:0:0:1");
        written("5", "[5,{3:n}]", "2:0:0:4");
        written("[n]", "{0:n}", "2:0:0:2");
        written("t", Build.list(49, "n"), "2:0:0:50");
        written("{9:[n]}", "{9:{0:n}}", "2:1:0:2");
    }

    private static void operationsAtTheGreatestDepth() {
        DUE.sentence("T3", "has these OPERATIONS, beginning with an empty PATH");
        written("[[[[[[1]]]]]]", "[[[[[[2]]]]]]", "2:6:0:1");
        written("[[[[[[1]]]]]]", "[[[[[[]]]]]]", "1:5:0:0");
        written("[[[[[[]]]]]]", "[[[[[[{}]]]]]]", "0:5:0:1");
        written("[[[[[[[]]]]]]]", "[[[[[[{}]]]]]]", "2:6:0:1");
        written("{1:{2:{3:{4:{5:{6:n}}}}}}", "{1:{2:{3:{4:{5:{7:n}}}}}}", "1:5:6:0 0:5:7:1");
    }

    private static void noSuchDocument() {
        for (String name : new String[] {"difference", "changes"}) {
            DUE.sentence(name.equals("changes") ? "30" : "29", "if there is no such DOCUMENT");
            MarlStore x = new MarlStore();
            for (int document : new int[] {-1, 6, 7, MIN, MAX}) {
                DUE.bounds(x, name, document, 0);
                DUE.bounds(x, name, 0, document);
                DUE.bounds(x, name, document, document);
            }
            DUE.call(x, 0, name, 0, 5);
            DUE.call(x, 0, name, 5, 0);
        }
    }
}
