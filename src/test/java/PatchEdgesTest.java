/** The boundary cases that promises 20 to 28, and term 2, name: a test for each. */
public final class PatchEdgesTest {
    private static final Due DUE = new Due("PatchEdgesTest");
    private static final int ADD = 0;
    private static final int DROP = 1;
    private static final int SET = 2;
    private static final int TEST = 3;
    private static final int MIN = Integer.MIN_VALUE;
    private static final int MAX = Integer.MAX_VALUE;

    public static void main(String[] args) {
        eightPatches();
        withoutOperations();
        twentyOperations();
        noSuchPatchToAddTo();
        noSuchCode();
        noSuchStep();
        stepNotLookedAt();
        asTheyAreNow();
        addToLists();
        addToObjects();
        addToPlainOnes();
        drops();
        dropsTheOnlyOne();
        sets();
        tests();
        testsTheSame();
        pathIsNotRight();
        firstOneFails();
        oneInTheMiddleFails();
        lastOneFails();
        endIsTooLarge();
        endIsTooDeep();
        largerInBetween();
        deeperInBetween();
        inverseOfNone();
        inverseIsTheLastOneFirst();
        inverseOfAdd();
        inverseOfDrop();
        inverseOfSet();
        inverseOfTest();
        inverseWithLargeValues();
        inverseWithDeepValues();
        eightPatchesToApply();
        notApplied();
        noSuchPatchOrDocument();
        failsAt();
        failsAtTheEnd();
        failsAtNone();
        diffOfNoSuchDocuments();
        diffOfTwentyOperations();
        diffOfEightPatches();
        diffOfTheSame();
        forgets();
        forgetsTheGreatest();
        howManyPatches();
        noSuchPatchToAsk();
        noSuchOperation();
        noSuchWhat();
        stepsAndSizesOfNone();
        leastAndGreatestTold();
        DUE.end();
    }

    /** A new object with one PATCH of one OPERATION, and the DOCUMENT 0. */
    private static MarlStore with(String document, int code, int step, String value, int... path) {
        MarlStore x = new MarlStore();
        x.addPatch();
        Build.operation(x, 0, code, step, value, path);
        Build.document(x, 0, document);
        return x;
    }

    private static void done(String behind, String document, int code, int step, String value,
            int... path) {
        MarlStore x = with(document, code, step, value, path);
        DUE.call(x, -1, "failsAt", 0, 0);
        DUE.call(x, 1, "apply", 0, 0);
        DUE.reads(x, 0, behind);
        DUE.call(x, 2, "apply", 1, 0);
        DUE.reads(x, 0, document);
    }

    private static void notDone(String document, int code, int step, String value, int... path) {
        MarlStore x = with(document, code, step, value, path);
        DUE.call(x, 0, "failsAt", 0, 0);
        DUE.call(x, -1, "apply", 0, 0);
        DUE.call(x, 1, "patches");
        DUE.reads(x, 0, document);
    }

    private static void eightPatches() {
        DUE.sentence("20", "if there are 8");
        MarlStore x = new MarlStore();
        for (int i = 0; i < 8; i++) {
            DUE.call(x, i, "addPatch");
        }
        DUE.state(x, "addPatch");
        DUE.call(x, 8, "patches");
        DUE.sentence("T2", "At most 8, numbered from 0 as they come");
        x.forget();
        DUE.call(x, 7, "addPatch");
        DUE.state(x, "addPatch");
    }

    private static void withoutOperations() {
        DUE.sentence("20", "Begins a PATCH without OPERATIONS");
        MarlStore x = new MarlStore();
        x.addPatch();
        DUE.call(x, 0, "operations", 0);
        x.addOperation(0, TEST, 0);
        DUE.call(x, 1, "addPatch");
        DUE.call(x, 0, "operations", 1);
        x.forget();
        x.forget();
        DUE.call(x, 0, "addPatch");
        DUE.call(x, 0, "operations", 0);
        DUE.bounds(x, "ofOperation", 0, 0, 0);
    }

    private static void twentyOperations() {
        DUE.sentence("21", "if it has 20");
        MarlStore x = new MarlStore();
        x.addPatch();
        x.addPatch();
        for (int i = 1; i <= 20; i++) {
            DUE.call(x, i, "addOperation", 1, i % 4, 0);
        }
        for (int code = 0; code < 4; code++) {
            DUE.state(x, "addOperation", 1, code, 0);
        }
        DUE.call(x, 20, "operations", 1);
        DUE.sentence("21", "Returns how many OPERATIONS it has then");
        DUE.call(x, 1, "addOperation", 0, TEST, 0);
        DUE.call(x, 2, "addOperation", 0, TEST, 0);
    }

    private static void noSuchPatchToAddTo() {
        DUE.sentence("21", "if there is no such PATCH");
        MarlStore x = new MarlStore();
        for (int patch : new int[] {-1, 0, 1, 7, 8, MIN, MAX}) {
            DUE.bounds(x, "addOperation", patch, ADD, 0);
        }
        x.addPatch();
        x.addPatch();
        for (int patch : new int[] {-1, 2, 7, 8, MIN, MAX}) {
            DUE.bounds(x, "addOperation", patch, ADD, 0);
        }
        x.forget();
        DUE.bounds(x, "addOperation", 1, ADD, 0);
        DUE.call(x, 1, "addOperation", 0, ADD, 0);
    }

    private static void noSuchCode() {
        DUE.sentence("21", "if code is not 0 to 3");
        MarlStore x = new MarlStore();
        x.addPatch();
        for (int code : new int[] {-1, 4, 5, MIN, MAX}) {
            DUE.argument(x, "addOperation", 0, code, 0);
        }
        DUE.call(x, 1, "addOperation", 0, 0, 0);
        DUE.call(x, 2, "addOperation", 0, 3, 0);
    }

    private static void noSuchStep() {
        DUE.sentence("21", "or, with 0 and 1, step is not 0 to 99");
        MarlStore x = new MarlStore();
        x.addPatch();
        for (int code : new int[] {ADD, DROP}) {
            for (int step : new int[] {-1, 100, MIN, MAX}) {
                DUE.argument(x, "addOperation", 0, code, step);
            }
        }
        DUE.call(x, 1, "addOperation", 0, ADD, 0);
        DUE.call(x, 2, "addOperation", 0, ADD, 99);
        DUE.call(x, 3, "addOperation", 0, DROP, 0);
        DUE.call(x, 4, "addOperation", 0, DROP, 99);
    }

    private static void stepNotLookedAt() {
        DUE.sentence("21", "(with 2 and 3 not looked at)");
        MarlStore x = new MarlStore();
        x.addPatch();
        int count = 0;
        for (int code : new int[] {SET, TEST}) {
            for (int step : new int[] {-1, 99, 100, MIN, MAX}) {
                count++;
                DUE.call(x, count, "addOperation", 0, code, step);
                DUE.call(x, 0, "ofOperation", 0, count - 1, 2);
            }
        }
    }

    private static void asTheyAreNow() {
        DUE.sentence("21", "and the VALUE of the CLIP (as they are now)");
        MarlStore x = with("[1,[2]]", ADD, 1, "{7:t}", 1);
        Build.document(x, 4, "[n]");
        Build.clip(x, 5, "[9]");
        x.point(3);
        DUE.call(x, 1, "apply", 0, 0);
        DUE.reads(x, 0, "[1,[2,{7:t}]]");
        DUE.call(x, 1, "ofOperation", 0, 0, 1);
        DUE.call(x, 2, "ofOperation", 0, 0, 3);
    }

    private static void addToLists() {
        DUE.sentence("T2", "in a LIST with n CHILDREN the VALUE comes to the place STEP, 0 to n");
        done("[t]", "[]", ADD, 0, "t");
        notDone("[]", ADD, 1, "t");
        notDone("[]", ADD, 99, "t");
        done("[t,1,2]", "[1,2]", ADD, 0, "t");
        done("[1,t,2]", "[1,2]", ADD, 1, "t");
        done("[1,2,t]", "[1,2]", ADD, 2, "t");
        notDone("[1,2]", ADD, 3, "t");
        notDone("[1,2]", ADD, 99, "t");
        String most = Build.list(48, "n");
        done(most.substring(0, most.length() - 1) + ",t]", most, ADD, 48, "t");
        notDone(most, ADD, 49, "t");
    }

    private static void addToObjects() {
        DUE.sentence("T2", "it is there for the KEY STEP, which must be a KEY (0 to 99)");
        done("{0:t}", "{}", ADD, 0, "t");
        done("{99:t}", "{}", ADD, 99, "t");
        done("{0:t,1:n,98:n}", "{1:n,98:n}", ADD, 0, "t");
        done("{1:n,98:n,99:t}", "{1:n,98:n}", ADD, 99, "t");
        DUE.sentence("T2", "and must not be there");
        notDone("{0:n}", ADD, 0, "t");
        notDone("{5:n,99:n}", ADD, 99, "n");
    }

    private static void addToPlainOnes() {
        DUE.sentence("T2", "what is there has such a STEP (with ADD as said)");
        for (String plain : new String[] {"n", "f", "t", "0", "5"}) {
            notDone(plain, ADD, 0, "t");
            notDone(plain, DROP, 0, "t");
        }
    }

    private static void drops() {
        DUE.sentence("T2", "the CHILD with this STEP goes");
        done("[2,3]", "[1,2,3]", DROP, 0, "n");
        done("[1,2]", "[1,2,3]", DROP, 2, "n");
        notDone("[1,2,3]", DROP, 3, "n");
        notDone("[1,2,3]", DROP, 99, "n");
        notDone("[]", DROP, 0, "n");
        done("{50:2,99:3}", "{0:1,50:2,99:3}", DROP, 0, "n");
        done("{0:1,50:2}", "{0:1,50:2,99:3}", DROP, 99, "n");
        notDone("{0:1,50:2,99:3}", DROP, 1, "n");
        notDone("{0:1,50:2,99:3}", DROP, 98, "n");
        notDone("{}", DROP, 0, "n");
        DUE.sentence("T2", "in a LIST those behind it come one place ahead");
        done("[1,3,4]", "[1,2,3,4]", DROP, 1, "n");
    }

    private static void dropsTheOnlyOne() {
        DUE.sentence("T2", "DROP at the PATH and STEP");
        done("[]", "[5]", DROP, 0, "n");
        done("{}", "{99:5}", DROP, 99, "n");
        done("[{}]", "[{0:[n,n]}]", DROP, 0, "n", 0);
        done("{7:[]}", "{7:[{1:n}]}", DROP, 0, "n", 7);
    }

    private static void sets() {
        DUE.sentence("T2", "the VALUE comes in place of what is there");
        done("t", "n", SET, 0, "t");
        done("n", "[1,{2:3}]", SET, 0, "n");
        done("[1,[]]", "[1,{2:3}]", SET, 0, "[]", 1);
        done("[[[[[[f]]]]]]", "[[[[[[t]]]]]]", SET, 0, "f", 0, 0, 0, 0, 0, 0);
        done(Build.list(49, "n"), "t", SET, 0, Build.list(49, "n"));
        done(Build.nested(7), "t", SET, 0, Build.nested(7));
    }

    private static void tests() {
        DUE.sentence("T2", "what is there must be the SAME as the VALUE");
        done("[t,f]", "[t,f]", TEST, 0, "[t,f]");
        notDone("[t,f]", TEST, 0, "[t,t]");
        done("[t,f]", "[t,f]", TEST, 0, "f", 1);
        notDone("[t,f]", TEST, 0, "f", 0);
        done("[[[[[[f]]]]]]", "[[[[[[f]]]]]]", TEST, 0, "f", 0, 0, 0, 0, 0, 0);
        done(Build.list(49, "n"), Build.list(49, "n"), TEST, 0, Build.list(49, "n"));
        notDone(Build.list(48, "n"), TEST, 0, Build.list(49, "n"));
        done(Build.nested(7), Build.nested(7), TEST, 0, Build.nested(7));
        notDone(Build.nested(7), TEST, 0, "[[[[[[n]]]]]]");
        notDone(Build.nested(6), TEST, 0, Build.nested(7));
    }

    private static void testsTheSame() {
        DUE.sentence("T1", "Two VALUES are the SAME, if they are of one KIND");
        String[] all = {"n", "f", "t", "0", "1", "-9999", "9999", "[]", "{}", "[n]", "{0:n}",
            "{1:n}", "[n,n]", "{0:n,1:n}", "[f]", "[0]", "[[]]", "[{}]", "{0:{}}", "[1,t]", "[t,1]"};
        for (String one : all) {
            for (String other : all) {
                if (one.equals(other)) {
                    done(one, one, TEST, 0, other);
                } else {
                    notDone(one, TEST, 0, other);
                }
            }
        }
    }

    private static void pathIsNotRight() {
        DUE.sentence("T2", "An OPERATION can be done, if its PATH is RIGHT");
        int[][] wrong = {{2}, {0, 0}, {1, 0}, {1, 3}, {1, 4, 1}, {1, 4, 0, 0}, {99}};
        for (int[] path : wrong) {
            notDone("[n,{4:[[]]}]", ADD, 0, "t", path);
            notDone("[n,{4:[[]]}]", DROP, 0, "t", path);
            notDone("[n,{4:[[]]}]", SET, 0, "t", path);
            notDone("[n,{4:[[]]}]", TEST, 0, "n", path);
        }
        done("[n,{4:[[t]]}]", "[n,{4:[[]]}]", ADD, 0, "t", 1, 4, 0);
        done("[n,{4:[]}]", "[n,{4:[[]]}]", DROP, 0, "t", 1, 4);
    }

    private static void firstOneFails() {
        DUE.sentence("T2", "if one cannot be done");
        MarlStore x = with("[1,2]", TEST, 0, "[]");
        x.point(0);
        x.addOperation(0, DROP, 0);
        DUE.call(x, 0, "failsAt", 0, 0);
        DUE.call(x, -1, "apply", 0, 0);
        DUE.call(x, 1, "patches");
        DUE.reads(x, 0, "[1,2]");
    }

    private static void oneInTheMiddleFails() {
        DUE.sentence("T2", "nothing is changed at all");
        MarlStore x = with("[1,2]", DROP, 0, "n");
        x.point(0);
        x.addOperation(0, DROP, 1);
        x.addOperation(0, DROP, 0);
        Build.at(x, 0, 1);
        long before = x.digest();
        DUE.call(x, 1, "failsAt", 0, 0);
        DUE.call(x, -1, "apply", 0, 0);
        DUE.holds("the digest is as before", x.digest() == before);
        DUE.reads(x, 0, "[1,2]");
    }

    private static void lastOneFails() {
        DUE.sentence("T2", "is to do its OPERATIONS one after the other");
        MarlStore x = with(Build.list(19, "n"), DROP, 0, "n");
        x.point(0);
        for (int i = 1; i < 20; i++) {
            x.addOperation(0, DROP, 0);
        }
        DUE.call(x, 19, "failsAt", 0, 0);
        DUE.call(x, -1, "apply", 0, 0);
        DUE.call(x, 20, "size", 0);
        x.insert(0);
        DUE.call(x, -1, "failsAt", 0, 0);
        DUE.call(x, 1, "apply", 0, 0);
        DUE.call(x, 1, "size", 0);
        DUE.call(x, 20, "operations", 1);
        DUE.call(x, 2, "apply", 1, 0);
        DUE.call(x, 21, "size", 0);
    }

    private static void endIsTooLarge() {
        DUE.sentence("T2", "or the DOCUMENT would not be allowed in the end (by SIZE and DEPTH");
        MarlStore x = with(Build.list(38, "n"), ADD, 0, Build.list(10, "n"));
        DUE.call(x, -1, "failsAt", 0, 0);
        DUE.call(x, 1, "apply", 0, 0);
        DUE.call(x, 50, "size", 0);
        x = with(Build.list(39, "n"), ADD, 0, Build.list(10, "n"));
        DUE.call(x, 1, "failsAt", 0, 0);
        DUE.call(x, -1, "apply", 0, 0);
        DUE.call(x, 40, "size", 0);
        x = with(Build.list(49, "n"), ADD, 49, "n");
        DUE.call(x, 1, "failsAt", 0, 0);
        DUE.call(x, -1, "apply", 0, 0);
        x = with(Build.list(49, "n"), SET, 0, "[]", 48);
        DUE.call(x, 1, "apply", 0, 0);
        x = with(Build.list(49, "n"), SET, 0, "[n]", 48);
        DUE.call(x, -1, "apply", 0, 0);
    }

    private static void endIsTooDeep() {
        DUE.sentence("T2", "would not be allowed in the end");
        MarlStore x = with("{3:[]}", ADD, 0, Build.nested(5), 3);
        DUE.call(x, -1, "failsAt", 0, 0);
        DUE.call(x, 1, "apply", 0, 0);
        DUE.call(x, 7, "depth", 0);
        x = with("{3:[]}", ADD, 0, Build.nested(6), 3);
        DUE.call(x, 1, "failsAt", 0, 0);
        DUE.call(x, -1, "apply", 0, 0);
        DUE.reads(x, 0, "{3:[]}");
        x = with("{3:[]}", SET, 0, Build.nested(6), 3);
        DUE.call(x, 1, "apply", 0, 0);
        x = with("{3:[]}", SET, 0, Build.nested(7), 3);
        DUE.call(x, -1, "apply", 0, 0);
        DUE.reads(x, 0, "{3:[]}");
    }

    private static void largerInBetween() {
        DUE.sentence("T2", "between OPERATIONS it can be larger");
        MarlStore x = with(Build.list(49, "n"), ADD, 0, Build.list(49, "t"));
        DUE.call(x, 1, "failsAt", 0, 0);
        x.point(0);
        x.addOperation(0, DROP, 0);
        DUE.call(x, -1, "failsAt", 0, 0);
        DUE.call(x, 1, "apply", 0, 0);
        DUE.call(x, 50, "size", 0);
        DUE.call(x, 2, "apply", 1, 0);
        DUE.call(x, 50, "size", 0);
        DUE.call(x, 50, "ofOperation", 1, 0, 3);
    }

    private static void deeperInBetween() {
        DUE.sentence("T2", "or deeper)");
        MarlStore x = with(Build.nested(7), ADD, 0, Build.nested(7), 0, 0, 0, 0, 0, 0);
        DUE.call(x, 1, "failsAt", 0, 0);
        Build.operation(x, 0, DROP, 0, "n", 0, 0, 0, 0, 0, 0);
        DUE.call(x, -1, "failsAt", 0, 0);
        DUE.call(x, 1, "apply", 0, 0);
        DUE.reads(x, 0, Build.nested(7));
    }

    private static void inverseOfNone() {
        DUE.sentence("22", "The INVERSE becomes a new PATCH, if it was applied");
        MarlStore x = new MarlStore();
        x.addPatch();
        DUE.call(x, 1, "apply", 0, 0);
        DUE.call(x, 2, "patches");
        DUE.call(x, 0, "operations", 1);
        DUE.call(x, 2, "apply", 1, 5);
    }

    private static void told(MarlStore x, int patch, int[][] due) {
        DUE.call(x, due.length, "operations", patch);
        for (int i = 0; i < due.length; i++) {
            for (int what = 0; what < 4; what++) {
                DUE.call(x, due[i][what], "ofOperation", patch, i, what);
            }
        }
    }

    private static void inverseIsTheLastOneFirst() {
        DUE.sentence("T2", "has for each OPERATION, the last one first");
        MarlStore x = with("[1,[2]]", ADD, 2, "[n,n]");
        Build.operation(x, 0, DROP, 0, "n", 1);
        Build.operation(x, 0, SET, 0, "{}", 0);
        Build.operation(x, 0, TEST, 0, "[]", 1);
        DUE.call(x, 1, "apply", 0, 0);
        told(x, 1, new int[][] {{TEST, 1, 0, 1}, {SET, 1, 0, 1}, {ADD, 1, 0, 1}, {DROP, 0, 2, 0}});
        DUE.reads(x, 0, "[{},[],[n,n]]");
        DUE.call(x, 2, "apply", 1, 0);
        DUE.reads(x, 0, "[1,[2]]");
    }

    private static void inverseOfAdd() {
        DUE.sentence("T2", "with the same PATH and STEP, for ADD a DROP");
        MarlStore x = with("[{4:[n]}]", ADD, 1, "[t]", 0, 4);
        DUE.call(x, 1, "apply", 0, 0);
        told(x, 1, new int[][] {{DROP, 2, 1, 0}});
        x = with("{}", ADD, 99, "[t]");
        DUE.call(x, 1, "apply", 0, 0);
        told(x, 1, new int[][] {{DROP, 0, 99, 0}});
    }

    private static void inverseOfDrop() {
        DUE.sentence("T2", "for DROP an ADD of what was dropped");
        MarlStore x = with("{99:[n,{3:t}]}", DROP, 99, "5");
        DUE.call(x, 1, "apply", 0, 0);
        told(x, 1, new int[][] {{ADD, 0, 99, 4}});
        Build.document(x, 1, "[n]");
        DUE.call(x, 0, "failsAt", 1, 1);
        Build.document(x, 1, "{1:n}");
        DUE.call(x, 2, "apply", 1, 1);
        DUE.reads(x, 1, "{1:n,99:[n,{3:t}]}");
    }

    private static void inverseOfSet() {
        DUE.sentence("T2", "for SET a SET to what was there just ahead of it");
        MarlStore x = with("[1]", SET, 0, "[2,3]", 0);
        Build.operation(x, 0, SET, 0, "{5:n}", 0);
        Build.operation(x, 0, SET, 0, "t");
        DUE.call(x, 1, "apply", 0, 0);
        told(x, 1, new int[][] {{SET, 0, 0, 3}, {SET, 1, 0, 3}, {SET, 1, 0, 1}});
        Build.document(x, 1, "n");
        DUE.call(x, 2, "apply", 1, 1);
        DUE.reads(x, 1, "[1]");
    }

    private static void inverseOfTest() {
        DUE.sentence("T2", "for TEST the same TEST");
        MarlStore x = with("[[t,f]]", TEST, 0, "[t,f]", 0);
        DUE.call(x, 1, "apply", 0, 0);
        told(x, 1, new int[][] {{TEST, 1, 0, 3}});
        DUE.call(x, 2, "apply", 1, 0);
        Build.document(x, 1, "[[t,t]]");
        DUE.call(x, 0, "failsAt", 1, 1);
    }

    private static void inverseWithLargeValues() {
        DUE.sentence("T2", "and perhaps a STEP and a VALUE (of whatever SIZE and DEPTH)");
        MarlStore x = with("[[n]]", ADD, 0, Build.list(49, "n"), 0);
        Build.operation(x, 0, ADD, 0, Build.list(49, "n"), 0);
        Build.operation(x, 0, DROP, 0, "n");
        DUE.call(x, 1, "apply", 0, 0);
        told(x, 1, new int[][] {{ADD, 0, 0, 102}, {DROP, 1, 0, 0}, {DROP, 1, 0, 0}});
        DUE.reads(x, 0, "[]");
        DUE.call(x, 2, "apply", 1, 0);
        DUE.reads(x, 0, "[[n]]");
        DUE.call(x, 3, "apply", 2, 0);
        told(x, 3, new int[][] {{ADD, 0, 0, 102}, {DROP, 1, 0, 0}, {DROP, 1, 0, 0}});
    }

    private static void inverseWithDeepValues() {
        DUE.sentence("T2", "a VALUE (of whatever SIZE and DEPTH)");
        MarlStore x = with(Build.nested(7), ADD, 0, Build.nested(7), 0, 0, 0, 0, 0, 0);
        Build.operation(x, 0, SET, 0, "f");
        DUE.call(x, 1, "apply", 0, 0);
        told(x, 1, new int[][] {{SET, 0, 0, 14}, {DROP, 6, 0, 0}});
        DUE.reads(x, 0, "f");
        DUE.call(x, 2, "apply", 1, 0);
        DUE.reads(x, 0, Build.nested(7));
        Build.document(x, 1, "n");
        DUE.call(x, 3, "apply", 1, 1);
        DUE.reads(x, 1, Build.nested(7));
    }

    private static void eightPatchesToApply() {
        DUE.sentence("22", "-2 if it was, but there are 8 PATCHES");
        MarlStore x = with("[]", ADD, 0, "t");
        for (int i = 1; i < 7; i++) {
            x.addPatch();
        }
        DUE.call(x, 7, "apply", 0, 0);
        DUE.reads(x, 0, "[t]");
        DUE.call(x, -2, "apply", 0, 0);
        DUE.reads(x, 0, "[t,t]");
        DUE.call(x, 8, "patches");
        DUE.call(x, 1, "operations", 7);
        DUE.call(x, -2, "apply", 7, 0);
        DUE.reads(x, 0, "[t]");
        DUE.sentence("22", "and there are less than 8");
        x.forget();
        DUE.call(x, 7, "apply", 0, 0);
        DUE.call(x, 8, "patches");
    }

    private static void notApplied() {
        DUE.sentence("22", "-1 if it was not applied");
        MarlStore x = with("[]", ADD, 1, "t");
        DUE.call(x, -1, "apply", 0, 0);
        DUE.call(x, 1, "patches");
        for (int i = 1; i < 8; i++) {
            x.addPatch();
        }
        DUE.call(x, -1, "apply", 0, 0);
        DUE.call(x, 8, "patches");
        DUE.reads(x, 0, "[]");
    }

    private static void noSuchPatchOrDocument() {
        for (String name : new String[] {"apply", "failsAt"}) {
            DUE.sentence(name.equals("apply") ? "22" : "23",
                    "if there is no such PATCH, or DOCUMENT");
            MarlStore x = new MarlStore();
            DUE.bounds(x, name, 0, 0);
            x.addPatch();
            for (int patch : new int[] {-1, 1, 7, 8, MIN, MAX}) {
                DUE.bounds(x, name, patch, 0);
            }
            for (int document : new int[] {-1, 6, 7, MIN, MAX}) {
                DUE.bounds(x, name, 0, document);
            }
            x.forget();
            DUE.bounds(x, name, 0, 0);
        }
    }

    private static void failsAt() {
        DUE.sentence("23", "the first OPERATION that cannot be done, if it is APPLIED");
        MarlStore x = with("t", TEST, 0, "f");
        Build.operation(x, 0, TEST, 0, "f");
        DUE.call(x, 0, "failsAt", 0, 0);
        Build.document(x, 1, "f");
        DUE.call(x, -1, "failsAt", 0, 1);
        for (int i = 2; i < 19; i++) {
            x.point(1);
            x.copy();
            x.addOperation(0, TEST, 0);
        }
        Build.operation(x, 0, TEST, 0, "t");
        DUE.call(x, 19, "failsAt", 0, 1);
        DUE.sentence("23", "(nothing is changed)");
        x = with("[t]", DROP, 0, "n");
        Build.at(x, 0, 0);
        long before = x.digest();
        DUE.call(x, -1, "failsAt", 0, 0);
        DUE.holds("the digest is as before", x.digest() == before);
        DUE.reads(x, 0, "[t]");
    }

    private static void failsAtTheEnd() {
        DUE.sentence("23", "if all can be done, but the DOCUMENT would not be allowed");
        MarlStore x = with(Build.list(49, "n"), ADD, 0, "n");
        DUE.call(x, 1, "failsAt", 0, 0);
        for (int i = 2; i <= 20; i++) {
            x.point(0);
            x.addOperation(0, ADD, 0);
            DUE.call(x, i, "failsAt", 0, 0);
        }
        DUE.call(x, -1, "apply", 0, 0);
        DUE.call(x, 50, "size", 0);
    }

    private static void failsAtNone() {
        DUE.sentence("23", "-1 if it can be APPLIED");
        MarlStore x = new MarlStore();
        x.addPatch();
        DUE.call(x, -1, "failsAt", 0, 0);
        DUE.call(x, -1, "failsAt", 0, 5);
        x.addOperation(0, TEST, 0);
        DUE.call(x, -1, "failsAt", 0, 0);
    }

    private static void diffOfNoSuchDocuments() {
        DUE.sentence("24", "if there is no such DOCUMENT");
        MarlStore x = new MarlStore();
        for (int document : new int[] {-1, 6, 7, MIN, MAX}) {
            DUE.bounds(x, "diff", document, 0);
            DUE.bounds(x, "diff", 0, document);
            DUE.bounds(x, "diff", document, document);
        }
        DUE.call(x, 0, "diff", 0, 5);
        DUE.call(x, 1, "diff", 5, 0);
    }

    private static void diffOfTwentyOperations() {
        DUE.sentence("24", "if it would have more than 20 OPERATIONS");
        MarlStore x = new MarlStore();
        Build.document(x, 0, "{}");
        Build.document(x, 1, Build.object(0, 20, "n"));
        Build.document(x, 2, Build.object(0, 21, "n"));
        DUE.call(x, 0, "diff", 0, 1);
        DUE.call(x, 20, "operations", 0);
        DUE.state(x, "diff", 0, 2);
        DUE.state(x, "diff", 2, 0);
        DUE.call(x, 1, "patches");
        DUE.call(x, 1, "diff", 1, 0);
        DUE.call(x, 2, "diff", 1, 2);
        DUE.call(x, 1, "operations", 2);
    }

    private static void diffOfEightPatches() {
        DUE.sentence("24", "or there are 8 PATCHES");
        MarlStore x = new MarlStore();
        for (int i = 0; i < 8; i++) {
            DUE.call(x, i, "diff", 0, 0);
        }
        DUE.state(x, "diff", 0, 0);
        Build.document(x, 1, "[t]");
        DUE.state(x, "diff", 0, 1);
        DUE.call(x, 8, "patches");
        x.forget();
        DUE.call(x, 7, "diff", 0, 1);
        DUE.call(x, 1, "operations", 7);
    }

    private static void diffOfTheSame() {
        DUE.sentence("24", "the other one, or the same");
        MarlStore x = new MarlStore();
        Build.document(x, 3, "[t,{5:[]}]");
        Build.document(x, 4, "[t,{5:[]}]");
        DUE.call(x, 0, "diff", 3, 3);
        DUE.call(x, 0, "operations", 0);
        DUE.call(x, 1, "diff", 3, 4);
        DUE.call(x, 0, "operations", 1);
        DUE.call(x, 2, "apply", 0, 0);
    }

    private static void forgets() {
        DUE.sentence("25", "if there is none");
        MarlStore x = new MarlStore();
        DUE.state(x, "forget");
        for (int i = 0; i < 8; i++) {
            x.addPatch();
        }
        for (int i = 7; i >= 0; i--) {
            DUE.call(x, i, "forget");
        }
        DUE.state(x, "forget");
    }

    private static void forgetsTheGreatest() {
        DUE.sentence("25", "Takes the PATCH with the greatest number away");
        MarlStore x = new MarlStore();
        for (int i = 0; i < 3; i++) {
            x.addPatch();
            for (int j = 0; j <= i; j++) {
                x.addOperation(i, TEST, 0);
            }
        }
        DUE.call(x, 2, "forget");
        DUE.bounds(x, "operations", 2);
        DUE.call(x, 2, "operations", 1);
        DUE.call(x, 1, "operations", 0);
    }

    private static void howManyPatches() {
        DUE.sentence("26", "Returns how many PATCHES there are");
        MarlStore x = new MarlStore();
        for (int i = 0; i < 8; i++) {
            DUE.call(x, i, "patches");
            x.addPatch();
        }
        DUE.call(x, 8, "patches");
        DUE.state(x, "addPatch");
        DUE.call(x, 8, "patches");
    }

    private static void noSuchPatchToAsk() {
        DUE.sentence("27", "if there is no such PATCH");
        MarlStore x = new MarlStore();
        DUE.bounds(x, "operations", 0);
        x.addPatch();
        x.addPatch();
        DUE.call(x, 0, "operations", 1);
        for (int patch : new int[] {-1, 2, 7, 8, MIN, MAX}) {
            DUE.bounds(x, "operations", patch);
        }
    }

    private static void noSuchOperation() {
        DUE.sentence("28", "if there is no such PATCH, or OPERATION");
        MarlStore x = new MarlStore();
        DUE.bounds(x, "ofOperation", 0, 0, 0);
        x.addPatch();
        DUE.bounds(x, "ofOperation", 0, 0, 0);
        for (int i = 0; i < 20; i++) {
            x.addOperation(0, SET, 0);
        }
        DUE.call(x, SET, "ofOperation", 0, 0, 0);
        DUE.call(x, SET, "ofOperation", 0, 19, 0);
        for (int operation : new int[] {-1, 20, 21, MIN, MAX}) {
            DUE.bounds(x, "ofOperation", 0, operation, 0);
        }
        for (int patch : new int[] {-1, 1, 7, 8, MIN, MAX}) {
            DUE.bounds(x, "ofOperation", patch, 0, 0);
        }
        x.forget();
        x.addPatch();
        x.addOperation(0, SET, 0);
        DUE.bounds(x, "ofOperation", 0, 1, 0);
    }

    private static void noSuchWhat() {
        DUE.sentence("28", "if what is not 0 to 3");
        MarlStore x = new MarlStore();
        x.addPatch();
        x.addOperation(0, TEST, 0);
        for (int what : new int[] {-1, 4, 5, MIN, MAX}) {
            DUE.argument(x, "ofOperation", 0, 0, what);
        }
        DUE.call(x, TEST, "ofOperation", 0, 0, 0);
        DUE.call(x, 1, "ofOperation", 0, 0, 3);
    }

    private static void stepsAndSizesOfNone() {
        DUE.sentence("28", "2 its STEP (0 with SET and TEST)");
        MarlStore x = with("n", SET, 7, "[n]");
        x.addOperation(0, TEST, 7);
        DUE.call(x, 0, "ofOperation", 0, 0, 2);
        DUE.call(x, 0, "ofOperation", 0, 1, 2);
        DUE.sentence("28", "3 the SIZE of its VALUE (0 with DROP)");
        x = with("n", DROP, 7, "[n,n]");
        DUE.call(x, 0, "ofOperation", 0, 0, 3);
        DUE.call(x, 7, "ofOperation", 0, 0, 2);
        x = with("[t]", ADD, 0, "[n,n]");
        x.apply(0, 0);
        DUE.call(x, DROP, "ofOperation", 1, 0, 0);
        DUE.call(x, 0, "ofOperation", 1, 0, 3);
    }

    private static void leastAndGreatestTold() {
        DUE.sentence("28", "0 its code, 1 how many STEPS its PATH has, 2 its STEP");
        MarlStore x = with("n", ADD, 99, Build.list(49, "n"), 0, 0, 0, 0, 0, 0);
        Build.operation(x, 0, ADD, 0, "[]");
        told(x, 0, new int[][] {{ADD, 6, 99, 50}, {ADD, 0, 0, 1}});
    }
}
