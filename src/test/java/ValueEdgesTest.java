/** The boundary cases that promises 8 to 19, and term 1, name: a test for each. */
public final class ValueEdgesTest {
    private static final Due DUE = new Due("ValueEdgesTest");
    private static final int MIN = Integer.MIN_VALUE;
    private static final int MAX = Integer.MAX_VALUE;

    public static void main(String[] args) {
        setKinds();
        setTruths();
        setNumbers();
        setNotLookedAt();
        setEmptyOnes();
        setTellsTheSize();
        copyOfTheGreatest();
        copyOfTheLeast();
        pasteIntoTheGreatestSize();
        pasteIntoTheGreatestDepth();
        pasteInPlaceOfAsMuch();
        pasteAtTheWhole();
        insertIntoAnEmptyList();
        insertAtTheEndsOfAList();
        insertTheLeastAndGreatestKeys();
        insertAKeyThatIsThere();
        insertIntoPlainOnes();
        insertIntoTheGreatestSize();
        insertIntoTheGreatestDepth();
        dropWithoutSuchAChild();
        dropAtTheEnds();
        dropTheOnlyOne();
        kinds();
        numbers();
        howManyChildren();
        places();
        placesInTheOrderOfKeys();
        sizes();
        depths();
        noSuchDocument();
        clips();
        DUE.end();
    }

    private static void setKinds() {
        DUE.sentence("8", "if kind is not 0 to 4");
        MarlStore x = new MarlStore();
        for (int kind : new int[] {-1, 5, 6, MIN, MAX}) {
            DUE.argument(x, "set", kind, 0);
            DUE.argument(x, "set", kind, 1);
        }
        DUE.call(x, 1, "set", 4, 0);
        DUE.call(x, 4, "kind");
        DUE.argument(x, "set", 5, 0);
        DUE.call(x, 4, "kind");
        DUE.call(x, 1, "set", 0, 0);
        DUE.call(x, 0, "kind");
    }

    private static void setTruths() {
        DUE.sentence("8", "with 1 number is not 0 or 1");
        MarlStore x = new MarlStore();
        for (int truth : new int[] {-1, 2, 9999, MIN, MAX}) {
            DUE.argument(x, "set", 1, truth);
        }
        DUE.call(x, 0, "kind");
        DUE.call(x, 1, "set", 1, 0);
        DUE.call(x, 0, "number");
        DUE.call(x, 1, "set", 1, 1);
        DUE.call(x, 1, "number");
    }

    private static void setNumbers() {
        DUE.sentence("8", "with 2 not -9999 to 9999");
        MarlStore x = new MarlStore();
        for (int number : new int[] {-10000, 10000, MIN, MAX}) {
            DUE.argument(x, "set", 2, number);
        }
        DUE.call(x, 0, "kind");
        DUE.call(x, 1, "set", 2, -9999);
        DUE.call(x, -9999, "number");
        DUE.call(x, 1, "set", 2, 9999);
        DUE.call(x, 9999, "number");
    }

    private static void setNotLookedAt() {
        DUE.sentence("8", "(not looked at otherwise)");
        MarlStore x = new MarlStore();
        for (int number : new int[] {-10001, -10000, -1, 2, 10000, MIN, MAX}) {
            for (int kind : new int[] {0, 3, 4}) {
                DUE.call(x, 1, "set", kind, number);
                DUE.call(x, kind, "kind");
                DUE.call(x, -10000, "number");
            }
        }
    }

    private static void setEmptyOnes() {
        DUE.sentence("8", "or an empty LIST or OBJECT, in place of what is there");
        for (int kind = 3; kind <= 4; kind++) {
            MarlStore x = new MarlStore();
            Build.document(x, 0, "[{5:[n,t]}]");
            Build.at(x, 0, 0);
            DUE.call(x, 4, "set", kind, 0);
            DUE.call(x, kind, "kind");
            DUE.call(x, 0, "children");
            DUE.call(x, 2, "size", 0);
            DUE.call(x, 2, "depth", 0);
        }
    }

    private static void setTellsTheSize() {
        DUE.sentence("8", "Returns the SIZE of what was there");
        MarlStore x = new MarlStore();
        DUE.call(x, 1, "set", 2, 5);
        Build.document(x, 0, Build.list(49, "n"));
        DUE.call(x, 50, "set", 2, 5);
        Build.document(x, 0, "[[n,n],n]");
        Build.document(x, 1, "[t]");
        Build.at(x, 0, 0);
        DUE.call(x, 3, "set", 2, -9999);
        DUE.call(x, 3, "size", 0);
        DUE.reads(x, 0, "[-9999,n]");
        DUE.reads(x, 1, "[t]");
    }

    private static void copyOfTheGreatest() {
        DUE.sentence("9", "Lets the CLIP be what is there");
        MarlStore x = new MarlStore();
        Build.document(x, 0, Build.list(49, "n"));
        DUE.call(x, 50, "copy");
        DUE.call(x, 50, "clip");
        x.point(1);
        DUE.call(x, 50, "paste");
        Build.document(x, 0, Build.nested(7));
        DUE.call(x, 7, "copy");
        x.point(1);
        DUE.call(x, 7, "paste");
        DUE.call(x, 7, "depth", 1);
        x.point(0);
        x.set(0, 0);
        DUE.call(x, 7, "clip");
        x.paste();
        DUE.reads(x, 0, Build.nested(7));
    }

    private static void copyOfTheLeast() {
        DUE.sentence("9", "Returns its SIZE");
        for (String least : new String[] {"n", "t", "-3", "[]", "{}"}) {
            MarlStore x = new MarlStore();
            Build.document(x, 0, least);
            DUE.call(x, 1, "copy");
            DUE.call(x, 1, "clip");
            x.point(1);
            DUE.call(x, 1, "paste");
            DUE.reads(x, 1, least);
        }
    }

    /** The DOCUMENT 0 has this SIZE, its last CHILD is NOTHING, and the POINTER is there. */
    private static MarlStore with(int size, String clip) {
        MarlStore x = new MarlStore();
        Build.document(x, 0, Build.list(size - 1, "n"));
        Build.clip(x, 5, clip);
        Build.at(x, 0, size - 2);
        return x;
    }

    private static void pasteIntoTheGreatestSize() {
        DUE.sentence("10", "-1 if it would not be allowed (then nothing is done)");
        MarlStore x = with(41, Build.list(9, "n"));
        DUE.call(x, 50, "paste");
        DUE.call(x, 50, "size", 0);
        DUE.call(x, 3, "kind");
        x = with(42, Build.list(9, "n"));
        DUE.call(x, -1, "paste");
        DUE.call(x, 42, "size", 0);
        DUE.call(x, 0, "kind");
        DUE.call(x, 1, "steps");
        x = with(50, "t");
        DUE.call(x, 50, "paste");
        DUE.call(x, 1, "kind");
        x = with(50, "[n]");
        DUE.call(x, -1, "paste");
        DUE.call(x, 0, "kind");
    }

    private static void pasteIntoTheGreatestDepth() {
        DUE.sentence("T1", "it has a SIZE up to 50, and a DEPTH up to 7");
        MarlStore x = new MarlStore();
        Build.document(x, 0, "[t]");
        Build.clip(x, 5, Build.nested(6));
        Build.at(x, 0, 0);
        DUE.call(x, 7, "paste");
        DUE.call(x, 7, "depth", 0);
        Build.document(x, 0, "{9:[t]}");
        Build.clip(x, 5, Build.nested(6));
        Build.at(x, 0, 9, 0);
        DUE.call(x, -1, "paste");
        DUE.reads(x, 0, "{9:[t]}");
        Build.document(x, 0, Build.nested(7));
        Build.clip(x, 5, "{}");
        Build.at(x, 0, 0, 0, 0, 0, 0, 0);
        DUE.call(x, 7, "paste");
        Build.clip(x, 5, "{1:n}");
        Build.at(x, 0, 0, 0, 0, 0, 0, 0);
        DUE.call(x, -1, "paste");
        DUE.call(x, 4, "kind");
        DUE.call(x, 0, "children");
    }

    private static void pasteInPlaceOfAsMuch() {
        DUE.sentence("10", "Sets what the CLIP is, in place of what is there");
        MarlStore x = new MarlStore();
        Build.document(x, 0, "[" + Build.list(20, "n") + "," + Build.list(27, "n") + "]");
        Build.clip(x, 5, Build.list(20, "t"));
        Build.at(x, 0, 0);
        DUE.call(x, 50, "paste");
        DUE.call(x, 1, "into", 19);
        Build.clip(x, 5, Build.list(21, "t"));
        Build.at(x, 0, 0);
        DUE.call(x, -1, "paste");
        DUE.call(x, 20, "children");
        Build.at(x, 0, 1);
        DUE.call(x, 44, "paste");
    }

    private static void pasteAtTheWhole() {
        DUE.sentence("10", "Returns the SIZE of the DOCUMENT then");
        MarlStore x = new MarlStore();
        DUE.call(x, 1, "paste");
        Build.document(x, 0, Build.list(49, "n"));
        x.copy();
        DUE.call(x, 50, "paste");
        Build.clip(x, 5, "t");
        x.point(0);
        DUE.call(x, 1, "paste");
    }

    private static void insertIntoAnEmptyList() {
        DUE.sentence("11", "-1 if that cannot be done");
        MarlStore x = new MarlStore();
        x.set(3, 0);
        for (int step : new int[] {-1, 1, 2, 99, 100, MIN, MAX}) {
            DUE.call(x, -1, "insert", step);
            DUE.call(x, 0, "children");
        }
        DUE.call(x, 2, "insert", 0);
        DUE.call(x, -1, "insert", 2);
        DUE.call(x, 3, "insert", 1);
    }

    private static void insertAtTheEndsOfAList() {
        DUE.sentence("T2", "in a LIST with n CHILDREN the VALUE comes to the place STEP, 0 to n");
        MarlStore x = new MarlStore();
        Build.document(x, 0, "[1,2,3]");
        Build.clip(x, 5, "t");
        x.point(0);
        DUE.call(x, -1, "insert", -1);
        DUE.call(x, -1, "insert", 4);
        DUE.call(x, -1, "insert", MAX);
        DUE.reads(x, 0, "[1,2,3]");
        DUE.call(x, 5, "insert", 3);
        DUE.reads(x, 0, "[1,2,3,t]");
        DUE.call(x, 6, "insert", 0);
        DUE.reads(x, 0, "[t,1,2,3,t]");
        DUE.sentence("T2", "and those from there on one place later");
        Build.clip(x, 5, "f");
        x.point(0);
        DUE.call(x, 7, "insert", 4);
        DUE.reads(x, 0, "[t,1,2,3,f,t]");
    }

    private static void insertTheLeastAndGreatestKeys() {
        DUE.sentence("T2", "which must be a KEY (0 to 99)");
        MarlStore x = new MarlStore();
        x.set(4, 0);
        for (int key : new int[] {-1, 100, 101, MIN, MAX}) {
            DUE.call(x, -1, "insert", key);
        }
        DUE.call(x, 2, "insert", 99);
        DUE.call(x, 3, "insert", 0);
        DUE.call(x, -1, "insert", -1);
        DUE.call(x, -1, "insert", 100);
        DUE.reads(x, 0, "{0:n,99:n}");
    }

    private static void insertAKeyThatIsThere() {
        DUE.sentence("T2", "and must not be there");
        MarlStore x = new MarlStore();
        Build.document(x, 0, "{0:t,1:t,99:t}");
        for (int key : new int[] {0, 1, 99}) {
            DUE.call(x, -1, "insert", key);
        }
        DUE.reads(x, 0, "{0:t,1:t,99:t}");
        DUE.call(x, 3, "drop", 99);
        DUE.call(x, 4, "insert", 99);
        DUE.reads(x, 0, "{0:t,1:t,99:n}");
    }

    private static void insertIntoPlainOnes() {
        DUE.sentence("11", "Adds what the CLIP is as a CHILD of what is there (see ADD)");
        for (String plain : new String[] {"n", "f", "t", "0", "7"}) {
            MarlStore x = new MarlStore();
            Build.document(x, 0, plain);
            DUE.call(x, -1, "insert", 0);
            DUE.call(x, -1, "insert", 1);
            DUE.reads(x, 0, plain);
        }
    }

    private static void insertIntoTheGreatestSize() {
        DUE.sentence("11", "or it would not be allowed");
        MarlStore x = new MarlStore();
        Build.document(x, 0, Build.list(48, "n"));
        DUE.call(x, 50, "insert", 48);
        DUE.call(x, -1, "insert", 0);
        DUE.call(x, -1, "insert", 49);
        DUE.call(x, 49, "children");
        Build.document(x, 0, Build.object(0, 39, "n"));
        Build.clip(x, 5, Build.list(9, "n"));
        x.point(0);
        DUE.call(x, 50, "insert", 99);
        DUE.call(x, 49, "drop", 0);
        DUE.call(x, -1, "insert", 0);
        DUE.call(x, 49, "size", 0);
        DUE.call(x, 39, "drop", 99);
        Build.clip(x, 5, Build.list(10, "n"));
        x.point(0);
        DUE.call(x, 50, "insert", 98);
    }

    private static void insertIntoTheGreatestDepth() {
        DUE.sentence("T1", "and a DEPTH up to 7");
        MarlStore x = new MarlStore();
        Build.document(x, 0, "{1:[]}");
        Build.clip(x, 5, Build.nested(6));
        x.point(0);
        DUE.call(x, 8, "insert", 0);
        DUE.call(x, 7, "depth", 0);
        Build.at(x, 0, 1);
        DUE.call(x, -1, "insert", 0);
        DUE.call(x, 0, "children");
        Build.clip(x, 5, Build.nested(5));
        Build.at(x, 0, 1);
        DUE.call(x, 13, "insert", 0);
        DUE.call(x, 7, "depth", 0);
    }

    private static void dropWithoutSuchAChild() {
        DUE.sentence("12", "-1 if there is no such CHILD");
        for (String one : new String[] {"n", "t", "5", "[]", "{}"}) {
            MarlStore x = new MarlStore();
            Build.document(x, 0, one);
            for (int step : new int[] {-1, 0, 1, 99, 100, MIN, MAX}) {
                DUE.call(x, -1, "drop", step);
            }
            DUE.reads(x, 0, one);
        }
        MarlStore x = new MarlStore();
        Build.document(x, 0, "[n,n,n]");
        Build.document(x, 1, "{0:n,2:n}");
        for (int step : new int[] {-1, 3, 4, MIN, MAX}) {
            x.point(0);
            DUE.call(x, -1, "drop", step);
            x.point(1);
            DUE.call(x, -1, "drop", step);
        }
        DUE.call(x, -1, "drop", 1);
        DUE.call(x, 4, "size", 0);
        DUE.call(x, 3, "size", 1);
    }

    private static void dropAtTheEnds() {
        DUE.sentence("12", "Drops a CHILD of what is there");
        MarlStore x = new MarlStore();
        Build.document(x, 0, "[1,2,3,4]");
        DUE.call(x, 4, "drop", 3);
        DUE.call(x, 3, "drop", 0);
        DUE.reads(x, 0, "[2,3]");
        Build.document(x, 0, "{0:1,50:2,99:3}");
        DUE.call(x, 3, "drop", 99);
        DUE.call(x, 2, "drop", 0);
        DUE.reads(x, 0, "{50:2}");
        DUE.sentence("T2", "in a LIST those behind it come one place ahead");
        Build.document(x, 0, "[1,2,3,4]");
        DUE.call(x, 4, "drop", 0);
        DUE.reads(x, 0, "[2,3,4]");
        DUE.call(x, -1, "drop", 3);
    }

    private static void dropTheOnlyOne() {
        DUE.sentence("12", "Returns the SIZE of the DOCUMENT then");
        MarlStore x = new MarlStore();
        Build.document(x, 0, "[{7:[n,n]}]");
        Build.at(x, 0, 0);
        DUE.call(x, 2, "drop", 7);
        DUE.call(x, 4, "kind");
        DUE.call(x, 2, "depth", 0);
        x.up();
        DUE.call(x, 1, "drop", 0);
        DUE.call(x, 3, "kind");
        DUE.call(x, 1, "depth", 0);
        DUE.call(x, 2, "insert", 0);
        DUE.reads(x, 0, "[n]");
    }

    private static void kinds() {
        DUE.sentence("13", "Returns the KIND there");
        MarlStore x = new MarlStore();
        DUE.call(x, 0, "kind");
        for (int kind = 4; kind >= 0; kind--) {
            x.set(kind, 0);
            DUE.call(x, kind, "kind");
        }
    }

    private static void numbers() {
        DUE.sentence("14", "-10000 if it is none");
        String[] all = {"n", "[]", "{}", "[5]", "{0:t}", "f", "t", "0", "-9999", "9999"};
        int[] due = {-10000, -10000, -10000, -10000, -10000, 0, 1, 0, -9999, 9999};
        for (int i = 0; i < all.length; i++) {
            MarlStore x = new MarlStore();
            Build.document(x, 0, all[i]);
            DUE.call(x, due[i], "number");
        }
    }

    private static void howManyChildren() {
        DUE.sentence("15", "Returns how many CHILDREN are there");
        MarlStore x = new MarlStore();
        for (int kind = 0; kind <= 4; kind++) {
            x.set(kind, 0);
            DUE.call(x, 0, "children");
        }
        Build.document(x, 0, Build.list(49, "n"));
        DUE.call(x, 49, "children");
        Build.document(x, 0, Build.object(51, 49, "n"));
        DUE.call(x, 49, "children");
        Build.document(x, 0, "[[n,n,n]]");
        DUE.call(x, 1, "children");
    }

    private static void places() {
        DUE.sentence("16", "if there is no such place");
        for (String none : new String[] {"n", "t", "4", "[]", "{}"}) {
            MarlStore x = new MarlStore();
            Build.document(x, 0, none);
            for (int place : new int[] {-1, 0, 1, MIN, MAX}) {
                DUE.bounds(x, "childStep", place);
            }
        }
        MarlStore x = new MarlStore();
        Build.document(x, 0, "[n,n,n]");
        DUE.call(x, 0, "childStep", 0);
        DUE.call(x, 2, "childStep", 2);
        for (int place : new int[] {-1, 3, 4, MIN, MAX}) {
            DUE.bounds(x, "childStep", place);
        }
        Build.document(x, 0, "{0:n,99:n}");
        DUE.call(x, 0, "childStep", 0);
        DUE.call(x, 99, "childStep", 1);
        for (int place : new int[] {-1, 2, 99, MIN, MAX}) {
            DUE.bounds(x, "childStep", place);
        }
    }

    private static void placesInTheOrderOfKeys() {
        DUE.sentence("T1", "and the CHILDREN are in the order of these");
        MarlStore x = new MarlStore();
        x.set(4, 0);
        int[] keys = {50, 99, 0, 98, 1, 51, 49};
        for (int key : keys) {
            x.insert(key);
        }
        int[] due = {0, 1, 49, 50, 51, 98, 99};
        for (int i = 0; i < due.length; i++) {
            DUE.call(x, due[i], "childStep", i);
        }
        DUE.bounds(x, "childStep", 7);
    }

    private static void sizes() {
        DUE.sentence("T1", "The SIZE of a VALUE is 1 and the SIZES of its CHILDREN");
        String[] all = {"n", "t", "5", "[]", "{}", "[n]", "{0:n}", "[[],{}]", "[n,[n,{4:n}]]",
            Build.list(49, "n"), Build.object(0, 49, "n")};
        int[] due = {1, 1, 1, 1, 1, 2, 2, 3, 6, 50, 50};
        for (int i = 0; i < all.length; i++) {
            MarlStore x = new MarlStore();
            Build.document(x, 5, all[i]);
            DUE.call(x, due[i], "size", 5);
        }
    }

    private static void depths() {
        DUE.sentence("T1", "its DEPTH 1 and the greatest DEPTH of a CHILD (0 without any)");
        String[] all = {"n", "t", "5", "[]", "{}", "[n]", "{0:n}", "[[n],{},[]]", "[n,{9:[]},n]",
            Build.nested(6), Build.nested(7)};
        int[] due = {1, 1, 1, 1, 1, 2, 2, 3, 3, 6, 7};
        for (int i = 0; i < all.length; i++) {
            MarlStore x = new MarlStore();
            Build.document(x, 5, all[i]);
            DUE.call(x, due[i], "depth", 5);
        }
    }

    private static void noSuchDocument() {
        for (String name : new String[] {"size", "depth"}) {
            DUE.sentence(name.equals("size") ? "17" : "18", "if there is no such DOCUMENT");
            MarlStore x = new MarlStore();
            DUE.call(x, 1, name, 0);
            DUE.call(x, 1, name, 5);
            for (int document : new int[] {-1, 6, 7, MIN, MAX}) {
                DUE.bounds(x, name, document);
            }
        }
    }

    private static void clips() {
        DUE.sentence("19", "Returns the SIZE of the CLIP");
        MarlStore x = new MarlStore();
        DUE.call(x, 1, "clip");
        Build.document(x, 0, Build.list(49, "n"));
        DUE.call(x, 1, "clip");
        x.copy();
        DUE.call(x, 50, "clip");
        x.set(0, 0);
        DUE.call(x, 50, "clip");
        x.copy();
        DUE.call(x, 1, "clip");
    }
}
