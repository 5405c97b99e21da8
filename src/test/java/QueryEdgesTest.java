/** The boundary cases that promises 38 to 44, and term 5, name: a test for each. */
public final class QueryEdgesTest {
    private static final Due DUE = new Due("QueryEdgesTest");
    private static final int STEP = 0;
    private static final int ANY = 1;
    private static final int DEEP = 2;
    private static final int LAST = 3;
    private static final int LESS = 4;
    private static final int WITH = 5;
    private static final int KIND = 6;
    private static final int MIN = Integer.MIN_VALUE;
    private static final int MAX = Integer.MAX_VALUE;

    public static void main(String[] args) {
        sixQueries();
        withoutParts();
        noSuchQueryToAddTo();
        noSuchPart();
        stepsOfParts();
        numbersOfParts();
        kindsOfParts();
        notLookedAt();
        fiveParts();
        step();
        any();
        deep();
        last();
        less();
        with();
        kind();
        onlyOnce();
        inOrder();
        ofNothingFound();
        foundAtMost();
        noSuchQueryOrDocument();
        notSoMany();
        thePointerIsThere();
        havingAtTheEnds();
        havingNone();
        highIsLess();
        noSuchQueryToHave();
        meanOfNone();
        meanNotCut();
        meanOfTheGreatest();
        dropsAll();
        dropsNone();
        dropsNotTheWhole();
        dropsTheLastOneFirst();
        dropsWhatIsFoundAhead();
        DUE.end();
    }

    /** A new object with this as DOCUMENT 3, and a QUERY of PARTS and their n in turn. */
    private static MarlStore with(String document, int... parts) {
        MarlStore x = new MarlStore();
        Build.document(x, 3, document);
        x.addQuery();
        for (int i = 0; i < parts.length; i += 2) {
            x.addPart(0, parts[i], parts[i + 1]);
        }
        return x;
    }

    /** The PATHS of what is found, as "STEP.STEP" with blanks between, and "-" for the whole. */
    private static void finds(String document, String due, int... parts) {
        MarlStore x = with(document, parts);
        int count = x.found(0, 3);
        StringBuilder got = new StringBuilder();
        for (int i = 0; i < count; i++) {
            int kind = x.pointFound(0, 3, i);
            DUE.is("kind()", x.kind(), kind);
            got.append(i > 0 ? " " : "").append(x.steps() == 0 ? "-" : Build.path(x));
        }
        DUE.is("what is found in " + document, got.toString(), due);
        DUE.bounds(x, "pointFound", 0, 3, count);
    }

    private static void sixQueries() {
        DUE.sentence("38", "if there are 6");
        MarlStore x = new MarlStore();
        for (int i = 0; i < 6; i++) {
            DUE.bounds(x, "found", i, 0);
            DUE.call(x, i, "addQuery");
        }
        DUE.state(x, "addQuery");
        DUE.bounds(x, "found", 6, 0);
        DUE.sentence("T5", "At most 6, numbered from 0");
        DUE.call(x, 1, "found", 0, 0);
        DUE.call(x, 1, "found", 5, 0);
        DUE.call(x, 1, "addPart", 5, KIND, 4);
        DUE.call(x, 0, "found", 5, 0);
        DUE.call(x, 1, "found", 4, 0);
    }

    private static void withoutParts() {
        DUE.sentence("T5", "without PARTS the whole VALUE");
        for (String one : new String[] {"n", "t", "5", "[]", "{}", "[n,[n]]", Build.nested(7)}) {
            finds(one, "-");
        }
    }

    private static void noSuchQueryToAddTo() {
        DUE.sentence("39", "if there is no such QUERY");
        MarlStore x = new MarlStore();
        DUE.bounds(x, "addPart", 0, ANY, 0);
        x.addQuery();
        x.addQuery();
        for (int query : new int[] {-1, 2, 5, 6, MIN, MAX}) {
            DUE.bounds(x, "addPart", query, ANY, 0);
        }
        DUE.call(x, 1, "addPart", 1, ANY, 0);
        DUE.call(x, 1, "addPart", 0, ANY, 0);
    }

    private static void noSuchPart() {
        DUE.sentence("39", "if part is not 0 to 6");
        MarlStore x = with("n");
        for (int part : new int[] {-1, 7, 8, MIN, MAX}) {
            DUE.argument(x, "addPart", 0, part, 0);
        }
        DUE.call(x, 1, "found", 0, 3);
        DUE.call(x, 1, "addPart", 0, 6, 0);
        DUE.call(x, 2, "addPart", 0, 0, 0);
    }

    private static void stepsOfParts() {
        DUE.sentence("39", "or n is not 0 to 99 with 0 or 5");
        MarlStore x = with("n");
        for (int part : new int[] {STEP, WITH}) {
            for (int n : new int[] {-1, 100, MIN, MAX}) {
                DUE.argument(x, "addPart", 0, part, n);
            }
        }
        DUE.call(x, 1, "addPart", 0, STEP, 0);
        DUE.call(x, 2, "addPart", 0, STEP, 99);
        DUE.call(x, 3, "addPart", 0, WITH, 0);
        DUE.call(x, 4, "addPart", 0, WITH, 99);
    }

    private static void numbersOfParts() {
        DUE.sentence("39", "-9999 to 9999 with 4");
        MarlStore x = with("n");
        for (int n : new int[] {-10000, 10000, MIN, MAX}) {
            DUE.argument(x, "addPart", 0, LESS, n);
        }
        DUE.call(x, 1, "addPart", 0, LESS, -9999);
        DUE.call(x, 2, "addPart", 0, LESS, 9999);
        DUE.call(x, 3, "addPart", 0, LESS, 0);
    }

    private static void kindsOfParts() {
        DUE.sentence("39", "0 to 4 with 6");
        MarlStore x = with("n");
        for (int n : new int[] {-1, 5, MIN, MAX}) {
            DUE.argument(x, "addPart", 0, KIND, n);
        }
        DUE.call(x, 1, "addPart", 0, KIND, 0);
        DUE.call(x, 2, "addPart", 0, KIND, 4);
    }

    private static void notLookedAt() {
        DUE.sentence("39", "(with 1 to 3 not looked at)");
        for (int part = ANY; part <= LAST; part++) {
            MarlStore x = with("[[[[[n]]]]]");
            int count = 0;
            for (int n : new int[] {MIN, -10000, -1, 100, MAX}) {
                count++;
                DUE.call(x, count, "addPart", 0, part, n);
            }
            DUE.call(x, part == DEEP ? 6 : 1, "found", 0, 3);
        }
    }

    private static void fiveParts() {
        DUE.sentence("39", "if it has 5");
        MarlStore x = with("[[[[[[n]]]]]]");
        for (int i = 1; i <= 5; i++) {
            DUE.call(x, i, "addPart", 0, ANY, 0);
        }
        for (int part = 0; part <= 6; part++) {
            DUE.state(x, "addPart", 0, part, 0);
        }
        DUE.call(x, 1, "found", 0, 3);
        DUE.call(x, 3, "pointFound", 0, 3, 0);
        DUE.call(x, 5, "steps");
        DUE.sentence("T5", "each with at most 5 PARTS");
        x.addQuery();
        DUE.call(x, 1, "addPart", 1, ANY, 0);
    }

    private static void step() {
        DUE.sentence("T5", "0 STEP n: the CHILD with the STEP n");
        finds("[n,t,[]]", "0", STEP, 0);
        finds("[n,t,[]]", "2", STEP, 2);
        finds("[n,t,[]]", "", STEP, 3);
        finds("[n,t,[]]", "", STEP, 99);
        finds("{0:n,99:t}", "0", STEP, 0);
        finds("{0:n,99:t}", "99", STEP, 99);
        finds("{0:n,99:t}", "", STEP, 1);
        finds("{0:n,99:t}", "", STEP, 98);
        for (String none : new String[] {"n", "f", "0", "[]", "{}"}) {
            finds(none, "", STEP, 0);
        }
    }

    private static void any() {
        DUE.sentence("T5", "1 ANY: all CHILDREN");
        finds("[n]", "0", ANY, 0);
        finds("[[n],{5:n}]", "0 1", ANY, 0);
        finds("{99:n,0:[n]}", "0 99", ANY, 0);
        for (String none : new String[] {"n", "t", "5", "[]", "{}"}) {
            finds(none, "", ANY, 0);
        }
    }

    private static void deep() {
        DUE.sentence("T5", "2 DEEP: it itself, and all that is beneath it");
        for (String one : new String[] {"n", "t", "5", "[]", "{}"}) {
            finds(one, "-", DEEP, 0);
        }
        finds("[[n],{99:[]}]", "- 0 0.0 1 1.99", DEEP, 0);
        finds(Build.nested(7), "- 0 0.0 0.0.0 0.0.0.0 0.0.0.0.0 0.0.0.0.0.0", DEEP, 0);
        finds("[[n,t],n]", "0 0.0 0.1", STEP, 0, DEEP, 0);
    }

    private static void last() {
        DUE.sentence("T5", "3 LAST: the last CHILD (of an OBJECT that with the greatest KEY)");
        finds("[n]", "0", LAST, 0);
        finds("[n,t,[n,n]]", "2", LAST, 0);
        finds("[n,[n,[n,t]]]", "1.1.1", LAST, 0, LAST, 0, LAST, 0);
        finds("{99:n,0:t,50:[n]}", "99", LAST, 0);
        finds("{0:n}", "0", LAST, 0);
        for (String none : new String[] {"n", "t", "5", "[]", "{}"}) {
            finds(none, "", LAST, 0);
        }
        finds("[[],n,[t]]", "2 2.0", DEEP, 0, LAST, 0);
    }

    private static void less() {
        DUE.sentence("T5", "4 LESS n: it itself, if it is a NUMBER less than n");
        finds("4", "-", LESS, 5);
        finds("5", "", LESS, 5);
        finds("6", "", LESS, 5);
        finds("-9999", "", LESS, -9999);
        finds("-9999", "-", LESS, -9998);
        finds("9998", "-", LESS, 9999);
        finds("9999", "", LESS, 9999);
        for (String none : new String[] {"n", "f", "t", "[]", "{}", "[1]", "{0:1}"}) {
            finds(none, "", LESS, 9999);
        }
    }

    private static void with() {
        DUE.sentence("T5", "5 WITH n: it itself, if it has a CHILD with the STEP n");
        finds("[n,n]", "-", WITH, 0);
        finds("[n,n]", "-", WITH, 1);
        finds("[n,n]", "", WITH, 2);
        finds("[n,n]", "", WITH, 99);
        finds("{0:n,99:n}", "-", WITH, 0);
        finds("{0:n,99:n}", "-", WITH, 99);
        finds("{0:n,99:n}", "", WITH, 1);
        for (String none : new String[] {"n", "f", "0", "[]", "{}"}) {
            finds(none, "", WITH, 0);
        }
    }

    private static void kind() {
        DUE.sentence("T5", "6 KIND n: it itself, if it is of this KIND");
        String[] all = {"n", "t", "1", "[n]", "{0:n}"};
        for (int i = 0; i < 5; i++) {
            for (int n = 0; n < 5; n++) {
                finds(all[i], i == n ? "-" : "", KIND, n);
            }
        }
        finds("[n,t,1,[],{}]", "- 3", DEEP, 0, KIND, 3);
    }

    private static void onlyOnce() {
        DUE.sentence("T5", "What is found is found once (at its place; others can be the SAME)");
        finds("[[n],[n]]", "- 0 0.0 1 1.0", DEEP, 0, DEEP, 0);
        finds("[[n],[n]]", "0 0.0 1 1.0", DEEP, 0, ANY, 0);
        finds("[[n],[n]]", "0 0.0 1 1.0", DEEP, 0, ANY, 0, DEEP, 0);
        finds("[n,n,n]", "0 1 2", ANY, 0);
        finds("[[n],[n]]", "0.0 1.0", ANY, 0, ANY, 0, DEEP, 0, DEEP, 0, DEEP, 0);
    }

    private static void inOrder() {
        DUE.sentence("T5", "each VALUE ahead of its CHILDREN");
        finds("[[[n]]]", "- 0 0.0 0.0.0", DEEP, 0);
        DUE.sentence("T5", "each CHILD with all that is beneath it ahead of the next one");
        finds("[[n,[t]],n,{3:[n],2:n}]", "- 0 0.0 0.1 0.1.0 1 2 2.2 2.3 2.3.0", DEEP, 0);
        finds("[[n,[t]],n,{3:[n],2:n}]", "0.0 0.1 0.1.0 2.2 2.3 2.3.0", ANY, 0, ANY, 0, DEEP, 0);
        finds("{9:n,5:[t],0:{7:n}}", "0 0.7 5 5.0 9", ANY, 0, DEEP, 0);
    }

    private static void ofNothingFound() {
        DUE.sentence("T5", "with each PART, of all that were found by those ahead");
        for (int part = 0; part <= 6; part++) {
            finds("[n]", "", STEP, 5, part, 0);
            finds("[n]", "", STEP, 0, STEP, 0, part, 0);
        }
        finds("[[1,2],[3]]", "0.0", ANY, 0, STEP, 0, LESS, 3);
    }

    private static void foundAtMost() {
        DUE.sentence("40", "Returns how many VALUES it finds");
        MarlStore x = with(Build.list(49, "n"), DEEP, 0);
        DUE.call(x, 50, "found", 0, 3);
        DUE.call(x, 0, "pointFound", 0, 3, 49);
        DUE.call(x, 48, "stepAt", 0);
        DUE.bounds(x, "pointFound", 0, 3, 50);
        DUE.call(x, 1, "found", 0, 0);
        x.addPart(0, ANY, 0);
        DUE.call(x, 49, "found", 0, 3);
        DUE.call(x, 0, "found", 0, 0);
    }

    private static void noSuchQueryOrDocument() {
        String[] names = {"found", "mean", "dropFound"};
        String[] promises = {"40", "43", "44"};
        for (int i = 0; i < names.length; i++) {
            DUE.sentence(promises[i], "if there is no such QUERY, or DOCUMENT");
            MarlStore x = new MarlStore();
            DUE.bounds(x, names[i], 0, 0);
            x.addQuery();
            for (int query : new int[] {-1, 1, 5, 6, MIN, MAX}) {
                DUE.bounds(x, names[i], query, 0);
            }
            for (int document : new int[] {-1, 6, 7, MIN, MAX}) {
                DUE.bounds(x, names[i], 0, document);
            }
            DUE.call(x, names[i].equals("mean") ? "0.0" : "1", names[i], 0, 0);
            DUE.call(x, names[i].equals("mean") ? "0.0" : "1", names[i], 0, 5);
        }
    }

    private static void notSoMany() {
        DUE.sentence("41", "if there is no such QUERY, or DOCUMENT, or it does not find so many");
        MarlStore x = new MarlStore();
        DUE.bounds(x, "pointFound", 0, 0, 0);
        x.addQuery();
        for (int query : new int[] {-1, 1, 5, 6, MIN, MAX}) {
            DUE.bounds(x, "pointFound", query, 0, 0);
        }
        for (int document : new int[] {-1, 6, 7, MIN, MAX}) {
            DUE.bounds(x, "pointFound", 0, document, 0);
        }
        for (int number : new int[] {-1, 1, 2, 63, 64, MIN, MAX}) {
            DUE.bounds(x, "pointFound", 0, 0, number);
        }
        DUE.call(x, 0, "pointFound", 0, 5, 0);
        x.addPart(0, ANY, 0);
        DUE.bounds(x, "pointFound", 0, 0, 0);
        DUE.call(x, 5, "document");
    }

    private static void thePointerIsThere() {
        DUE.sentence("41", "the POINTER is there then");
        MarlStore x = with("{99:[[[[[t]]]]]}", DEEP, 0, KIND, 1);
        x.point(1);
        DUE.call(x, 1, "pointFound", 0, 3, 0);
        DUE.call(x, 3, "document");
        DUE.is("the path", Build.path(x), "99.0.0.0.0.0");
        DUE.call(x, 1, "number");
        x.addQuery();
        DUE.call(x, 4, "pointFound", 1, 3, 0);
        DUE.call(x, 0, "steps");
        DUE.call(x, 0, "pointFound", 1, 0, 0);
        DUE.call(x, 0, "document");
    }

    private static void havingAtTheEnds() {
        DUE.sentence("42", "a NUMBER from low to high");
        MarlStore x = with("[-9999,n,5]", ANY, 0);
        Build.document(x, 0, "[9999]");
        Build.document(x, 5, "{7:5}");
        DUE.call(x, 40, "having", 0, 5, 5);
        DUE.call(x, 40, "having", 0, 4, 5);
        DUE.call(x, 40, "having", 0, 5, 6);
        DUE.call(x, 0, "having", 0, 6, 9998);
        DUE.call(x, 0, "having", 0, -9998, 4);
        DUE.call(x, 8, "having", 0, -9999, -9999);
        DUE.call(x, 1, "having", 0, 9999, 9999);
        DUE.call(x, 41, "having", 0, MIN, MAX);
        DUE.call(x, 0, "having", 0, MIN, MIN);
        DUE.call(x, 0, "having", 0, MAX, MAX);
        DUE.call(x, 0, "having", 0, 10000, MAX);
        DUE.call(x, 0, "having", 0, -10000, -10000);
    }

    private static void havingNone() {
        DUE.sentence("42", "Returns the set of DOCUMENTS");
        MarlStore x = with("t", DEEP, 0);
        DUE.call(x, 0, "having", 0, MIN, MAX);
        Build.document(x, 4, "[]");
        DUE.call(x, 0, "having", 0, -10000, 1);
        for (int i = 0; i < 6; i++) {
            Build.document(x, i, "0");
        }
        DUE.call(x, 63, "having", 0, 0, 0);
        x.addPart(0, LESS, 0);
        DUE.call(x, 0, "having", 0, 0, 0);
    }

    private static void highIsLess() {
        DUE.sentence("42", "if high is less than low");
        MarlStore x = with("5", DEEP, 0);
        DUE.argument(x, "having", 0, 6, 5);
        DUE.argument(x, "having", 0, 5, 4);
        DUE.argument(x, "having", 0, MAX, MIN);
        DUE.argument(x, "having", 0, MIN + 1, MIN);
        DUE.argument(x, "having", 0, MAX, MAX - 1);
        DUE.call(x, 8, "having", 0, 5, 5);
    }

    private static void noSuchQueryToHave() {
        DUE.sentence("42", "if there is no such QUERY");
        MarlStore x = new MarlStore();
        DUE.bounds(x, "having", 0, 0, 0);
        x.addQuery();
        for (int query : new int[] {-1, 1, 5, 6, MIN, MAX}) {
            DUE.bounds(x, "having", query, 0, 0);
        }
        DUE.call(x, 0, "having", 0, 0, 0);
    }

    private static void meanOfNone() {
        DUE.sentence("43", "0 without any");
        for (String none : new String[] {"n", "t", "[]", "{}", "[t,{5:n}]"}) {
            MarlStore x = with(none, DEEP, 0);
            DUE.is("mean of " + none, x.mean(0, 3), 0.0);
        }
        MarlStore x = with("[1,2]", STEP, 2);
        DUE.is("mean of what is not found", x.mean(0, 3), 0.0);
        x = with("[-4,4]", ANY, 0);
        DUE.is("mean of two that make nothing", x.mean(0, 3), 0.0);
        x = with("[0]", ANY, 0);
        DUE.is("mean of 0", x.mean(0, 3), 0.0);
    }

    private static void meanNotCut() {
        DUE.sentence("43", "Returns the mean of all NUMBERS that it finds, not cut");
        DUE.is("mean", with("[1,2]", ANY, 0).mean(0, 3), 1.5);
        DUE.is("mean", with("[-1,-2]", ANY, 0).mean(0, 3), -1.5);
        DUE.is("mean", with("[0,0,1]", ANY, 0).mean(0, 3), 1.0 / 3);
        DUE.is("mean", with("[0,0,-1,t,n]", ANY, 0).mean(0, 3), -1.0 / 3);
        DUE.is("mean", with("[1,[2,{9:4}]]", DEEP, 0).mean(0, 3), 7.0 / 3);
        DUE.is("mean", with("7").mean(0, 3), 7.0);
    }

    private static void meanOfTheGreatest() {
        DUE.sentence("T1", "a NUMBER (-9999 to 9999)");
        DUE.is("mean", with(Build.list(49, "9999"), DEEP, 0).mean(0, 3), 9999.0);
        DUE.is("mean", with(Build.list(49, "-9999"), DEEP, 0).mean(0, 3), -9999.0);
        DUE.is("mean", with("[9999,9999,9998]", DEEP, 0).mean(0, 3), 29996.0 / 3);
    }

    private static void drops(String document, String due, int... parts) {
        MarlStore x = with(document, parts);
        int size = x.dropFound(0, 3);
        DUE.call(x, size, "size", 3);
        DUE.reads(x, 3, due);
        MarlStore y = new MarlStore();
        Build.document(y, 3, due);
        DUE.is("dropFound", size, y.size(3));
    }

    private static void dropsAll() {
        DUE.sentence("44", "Drops all that a QUERY finds in a DOCUMENT");
        drops("[n]", "[]", ANY, 0);
        drops("{99:n}", "{}", ANY, 0);
        drops(Build.list(49, "n"), "[]", ANY, 0);
        drops(Build.object(0, 49, "n"), "{}", ANY, 0);
        drops("[1,5,2,6]", "[5,6]", ANY, 0, LESS, 5);
        drops("[n,t,5]", "[n,t]", LAST, 0);
        drops("{0:n,50:t,99:5}", "{50:t,99:5}", STEP, 0);
    }

    private static void dropsNone() {
        DUE.sentence("44", "Returns the SIZE of the DOCUMENT then");
        drops("[n,t]", "[n,t]", STEP, 2);
        drops("n", "n", ANY, 0);
        drops("[]", "[]", ANY, 0);
        drops(Build.nested(7), Build.nested(7), DEEP, 0, KIND, 4);
        MarlStore x = with(Build.list(49, "n"), STEP, 48);
        DUE.call(x, 49, "dropFound", 0, 3);
        DUE.call(x, 49, "dropFound", 0, 3);
        DUE.call(x, 1, "dropFound", 0, 0);
    }

    private static void dropsNotTheWhole() {
        DUE.sentence("44", "but the whole VALUE of it");
        for (String one : new String[] {"n", "t", "5", "[]", "{}", "[n,t]", Build.nested(7)}) {
            drops(one, one);
        }
        drops("[[n],t]", "[]", DEEP, 0);
        drops("{0:{0:n}}", "{}", DEEP, 0);
        drops("5", "5", LESS, 6);
        drops("[[n],t]", "[[],t]", STEP, 0, ANY, 0);
    }

    private static void dropsTheLastOneFirst() {
        DUE.sentence("44", "the last one first");
        drops("[1,1,5,1,6,1]", "[5,6]", ANY, 0, LESS, 5);
        drops("[[1,5],1,[6,1]]", "[[5],[6]]", DEEP, 0, LESS, 5);
        drops("[[n,t],[n]]", "[]", DEEP, 0, ANY, 0);
        drops("[5,{0:[1],1:5},[n,[]]]", "[5,{1:5}]", DEEP, 0, KIND, 3);
        drops("[[[n],t],[n,f]]", "[[f]]", DEEP, 0, STEP, 0, DEEP, 0);
    }

    /** What comes to the STEP of something that was dropped is not found any more. */
    private static void dropsWhatIsFoundAhead() {
        DUE.sentence("44", "as it is ahead of this");
        drops("[1,2,3]", "[2,3]", STEP, 0);
        drops("[[1,2],[3,4]]", "[[2],[4]]", ANY, 0, STEP, 0);
        drops("[1,2,3]", "[1,2]", LAST, 0);
        drops("[[[1,2],3],4]", "[[[1]]]", DEEP, 0, LAST, 0, DEEP, 0);
    }
}
