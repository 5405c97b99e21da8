/** The boundary cases that promises 1 to 7, and term 1 of the POINTER, name: a test for each. */
public final class PointerEdgesTest {
    private static final Due DUE = new Due("PointerEdgesTest");
    private static final int ADD = 0;
    private static final int DROP = 1;
    private static final int SET = 2;
    private static final int MIN = Integer.MIN_VALUE;
    private static final int MAX = Integer.MAX_VALUE;

    public static void main(String[] args) {
        sixDocuments();
        nothingAtFirst();
        withoutAnything();
        aDocumentAndNoStepsAtFirst();
        noSuchDocument();
        noSuchChildOfPlainOnes();
        noSuchChildOfEmptyOnes();
        noSuchChildOfAList();
        noSuchChildOfAnObject();
        noChildAtTheGreatestDepth();
        noStepsToGoUp();
        stepsThen();
        theDocumentOfThePointer();
        manySteps();
        noSuchStep();
        pathOfSteps();
        losesStepsBehindApply();
        losesStepsBehindDropFound();
        losesNoneWhileItIsRight();
        losesNoneByAnotherDocument();
        losesNoneByARefusedPatch();
        losesNoneInBetween();
        DUE.end();
    }

    private static void sixDocuments() {
        DUE.sentence("1", "Creates a store with 6 DOCUMENTS");
        MarlStore x = new MarlStore();
        DUE.call(x, 1, "size", 0);
        DUE.call(x, 1, "size", 5);
        DUE.bounds(x, "size", 6);
        DUE.bounds(x, "size", -1);
    }

    private static void nothingAtFirst() {
        DUE.sentence("T1", "numbered from 0, each with a VALUE, NOTHING at first");
        MarlStore x = new MarlStore();
        for (int i = 0; i < 6; i++) {
            DUE.call(x, 0, "point", i);
            DUE.call(x, -10000, "number");
            DUE.call(x, 0, "children");
            DUE.call(x, 1, "depth", i);
        }
        DUE.sentence("T1", "The CLIP is a VALUE by itself, NOTHING at first, likewise");
        x = new MarlStore();
        DUE.call(x, 1, "clip");
        x.set(2, 7);
        DUE.call(x, 1, "paste");
        DUE.reads(x, 0, "n");
    }

    private static void withoutAnything() {
        DUE.sentence("1", "without PATCHES, SCHEMAS and QUERIES");
        MarlStore x = new MarlStore();
        DUE.call(x, 0, "patches");
        DUE.bounds(x, "operations", 0);
        DUE.state(x, "forget");
        DUE.bounds(x, "fitting", 0);
        DUE.bounds(x, "check", 0, 0);
        DUE.bounds(x, "found", 0, 0);
        DUE.call(x, 0, "addPatch");
        DUE.call(x, 0, "addSchema");
        DUE.call(x, 0, "addQuery");
    }

    private static void aDocumentAndNoStepsAtFirst() {
        DUE.sentence("T1", "(0, and none, at first)");
        MarlStore x = new MarlStore();
        DUE.call(x, 0, "document");
        DUE.call(x, 0, "steps");
        DUE.bounds(x, "stepAt", 0);
    }

    private static void noSuchDocument() {
        DUE.sentence("2", "if there is no such DOCUMENT");
        MarlStore x = new MarlStore();
        Build.document(x, 3, "[[n]]");
        Build.at(x, 3, 0);
        for (int document : new int[] {-1, 6, 7, MIN, MAX}) {
            DUE.bounds(x, "point", document);
            DUE.call(x, 3, "document");
            DUE.call(x, 1, "steps");
        }
        DUE.call(x, 0, "point", 0);
        DUE.call(x, 0, "point", 5);
        DUE.call(x, 3, "point", 3);
        DUE.call(x, 0, "steps");
    }

    private static void refusesInto(MarlStore x, int... steps) {
        for (int step : steps) {
            DUE.bounds(x, "into", step);
        }
        DUE.call(x, 0, "steps");
    }

    private static void noSuchChildOfPlainOnes() {
        DUE.sentence("3", "if there is no such CHILD");
        for (String plain : new String[] {"n", "f", "t", "0", "1", "-9999"}) {
            MarlStore x = new MarlStore();
            Build.document(x, 0, plain);
            refusesInto(x, -1, 0, 1, MIN, MAX);
        }
    }

    private static void noSuchChildOfEmptyOnes() {
        DUE.sentence("T1", "(0 without any)");
        MarlStore x = new MarlStore();
        Build.document(x, 0, "[]");
        refusesInto(x, -1, 0, 1, MIN, MAX);
        x.set(4, 0);
        refusesInto(x, -1, 0, 1, 99, 100, MIN, MAX);
    }

    private static void noSuchChildOfAList() {
        DUE.sentence("T1", "The CHILDREN of a LIST are numbered from 0 by STEPS");
        MarlStore x = new MarlStore();
        Build.document(x, 0, "[t,n,[]]");
        refusesInto(x, -1, 3, 4, MIN, MAX);
        DUE.call(x, 1, "into", 0);
        DUE.call(x, 0, "up");
        DUE.call(x, 3, "into", 2);
    }

    private static void noSuchChildOfAnObject() {
        DUE.sentence("T1", "KEYS (0 to 99)");
        MarlStore x = new MarlStore();
        Build.document(x, 0, "{0:t,50:n,99:{}}");
        refusesInto(x, -1, 1, 2, 49, 51, 98, 100, MIN, MAX);
        DUE.call(x, 1, "into", 0);
        DUE.call(x, 0, "up");
        DUE.call(x, 4, "into", 99);
    }

    private static void noChildAtTheGreatestDepth() {
        DUE.sentence("T1", "a DEPTH up to 7");
        MarlStore x = new MarlStore();
        Build.document(x, 0, Build.nested(7));
        for (int i = 1; i <= 6; i++) {
            DUE.call(x, 3, "into", 0);
            DUE.call(x, i, "steps");
        }
        DUE.bounds(x, "into", 0);
        DUE.call(x, 6, "steps");
    }

    private static void noStepsToGoUp() {
        DUE.sentence("4", "if it has none");
        MarlStore x = new MarlStore();
        DUE.state(x, "up");
        Build.document(x, 5, "[[n]]");
        DUE.state(x, "up");
        Build.at(x, 5, 0);
        DUE.call(x, 0, "up");
        DUE.state(x, "up");
        DUE.call(x, 5, "document");
    }

    private static void stepsThen() {
        DUE.sentence("4", "Returns how many STEPS the PATH has then");
        MarlStore x = new MarlStore();
        Build.document(x, 1, Build.nested(7));
        Build.at(x, 1, 0, 0, 0, 0, 0, 0);
        for (int i = 5; i >= 0; i--) {
            DUE.call(x, i, "up");
            DUE.call(x, i, "steps");
        }
    }

    private static void theDocumentOfThePointer() {
        DUE.sentence("5", "Returns the DOCUMENT of the POINTER");
        MarlStore x = new MarlStore();
        for (int document : new int[] {5, 0, 4}) {
            x.point(document);
            DUE.call(x, document, "document");
        }
        DUE.bounds(x, "point", 6);
        DUE.call(x, 4, "document");
    }

    private static void manySteps() {
        DUE.sentence("6", "Returns how many STEPS its PATH has");
        MarlStore x = new MarlStore();
        DUE.call(x, 0, "steps");
        Build.document(x, 0, Build.nested(7));
        Build.at(x, 0, 0, 0, 0, 0, 0, 0);
        DUE.call(x, 6, "steps");
        x.point(0);
        DUE.call(x, 0, "steps");
    }

    private static void noSuchStep() {
        DUE.sentence("7", "if there is no such one");
        MarlStore x = new MarlStore();
        DUE.bounds(x, "stepAt", 0);
        DUE.bounds(x, "stepAt", -1);
        Build.document(x, 0, "{9:{0:{99:n}}}");
        Build.at(x, 0, 9, 0, 99);
        DUE.call(x, 9, "stepAt", 0);
        DUE.call(x, 0, "stepAt", 1);
        DUE.call(x, 99, "stepAt", 2);
        for (int number : new int[] {-1, 3, 4, 5, 6, 7, MIN, MAX}) {
            DUE.bounds(x, "stepAt", number);
        }
        x.up();
        DUE.bounds(x, "stepAt", 2);
        DUE.call(x, 0, "stepAt", 1);
        x.point(0);
        DUE.bounds(x, "stepAt", 0);
    }

    private static void pathOfSteps() {
        DUE.sentence("7", "Returns the STEP of its PATH with this number");
        MarlStore x = new MarlStore();
        Build.document(x, 0, "{1:{2:{3:{4:{5:{6:n}}}}}}");
        Build.at(x, 0, 1, 2, 3, 4, 5, 6);
        for (int i = 0; i < 6; i++) {
            DUE.call(x, i + 1, "stepAt", i);
        }
        DUE.bounds(x, "stepAt", 6);
    }

    /** What the PATH is, when a PATCH has put another VALUE in place of the DOCUMENT. */
    private static void behindApply(String before, String behind, String due, int... path) {
        MarlStore x = new MarlStore();
        x.addPatch();
        Build.clip(x, 1, behind);
        x.addOperation(0, SET, 0);
        Build.document(x, 0, before);
        Build.at(x, 0, path);
        DUE.call(x, 1, "apply", 0, 0);
        DUE.is("the path from " + before + " to " + behind, Build.path(x), due);
        DUE.call(x, 0, "document");
        DUE.reads(x, 0, behind);
    }

    private static void losesStepsBehindApply() {
        DUE.sentence("T1", "it loses STEPS from the end on, till it is");
        behindApply("[n,[n,[n,n]]]", "[n,[n,[n]]]", "1.1", 1, 1, 1);
        behindApply("[n,[n,[n,n]]]", "[n,[n,[]]]", "1.1", 1, 1, 0);
        behindApply("[n,[n,[n,n]]]", "[n,[n,5]]", "1.1", 1, 1, 1);
        behindApply("[n,[n,[n,n]]]", "[n,[[n,n]]]", "1", 1, 1, 1);
        behindApply("[n,[n,[n,n]]]", "[n,t]", "1", 1, 1, 1);
        behindApply("[n,[n,[n,n]]]", "[[n,[n,n]]]", "", 1, 1, 1);
        behindApply("[n,[n,[n,n]]]", "n", "", 1, 1, 1);
        behindApply("{0:{99:{50:n}}}", "{0:{98:n,99:{49:n,51:n}}}", "0.99", 0, 99, 50);
        behindApply("{0:{99:{50:n}}}", "{1:{99:{50:n}}}", "", 0, 99, 50);
        behindApply(Build.nested(7), Build.nested(6), "0.0.0.0.0", 0, 0, 0, 0, 0, 0);
        behindApply(Build.nested(7), "[]", "", 0, 0, 0, 0, 0, 0);
    }

    private static void losesStepsBehindDropFound() {
        DUE.sentence("T1", "If the POINTER's DOCUMENT is changed by whatever call");
        MarlStore x = new MarlStore();
        x.addQuery();
        x.addPart(0, 2, 0);
        x.addPart(0, 0, 1);
        Build.document(x, 0, "[[n,[n,n]],[n],n]");
        Build.at(x, 0, 0, 1, 1);
        DUE.call(x, 4, "dropFound", 0, 0);
        DUE.is("the path", Build.path(x), "0");
        DUE.reads(x, 0, "[[n],n]");
        Build.at(x, 0, 1);
        DUE.call(x, 3, "dropFound", 0, 0);
        DUE.call(x, 0, "steps");
        x.into(0);
        DUE.call(x, 3, "dropFound", 0, 0);
        DUE.is("the path", Build.path(x), "0");
    }

    private static void losesNoneWhileItIsRight() {
        DUE.sentence("T1", "if it is RIGHT, it stays, whatever VALUE is there then");
        behindApply("[n,[n,5]]", "[n,[n,5,n]]", "1.1", 1, 1);
        behindApply("[n,[n,5]]", "[[],[t,[n,n]]]", "1.1", 1, 1);
        behindApply("[n,[n,5]]", "{1:{1:{}}}", "1.1", 1, 1);
        behindApply("{0:{1:n}}", "[[n,t]]", "0.1", 0, 1);
        behindApply("5", "[n]", "");
        behindApply(Build.nested(7), "[[[[[[{}],t]]]]]", "0.0.0.0.0.0", 0, 0, 0, 0, 0, 0);
        MarlStore x = new MarlStore();
        Build.document(x, 0, "[[1,2],[3,4]]");
        x.addPatch();
        x.addOperation(0, DROP, 0);
        Build.at(x, 0, 0, 1);
        DUE.call(x, 1, "apply", 0, 0);
        DUE.is("the path", Build.path(x), "0.1");
        DUE.call(x, 4, "number");
    }

    private static void losesNoneByAnotherDocument() {
        DUE.sentence("T1", "If the POINTER's DOCUMENT is changed");
        MarlStore x = new MarlStore();
        x.addPatch();
        x.addOperation(0, SET, 0);
        x.addQuery();
        x.addPart(0, 1, 0);
        Build.document(x, 1, "[[n]]");
        Build.document(x, 2, "[[n]]");
        Build.document(x, 3, "[[n]]");
        Build.at(x, 1, 0, 0);
        DUE.call(x, 1, "apply", 0, 2);
        DUE.call(x, 1, "dropFound", 0, 3);
        DUE.is("the path", Build.path(x), "0.0");
        DUE.call(x, 1, "document");
    }

    private static void losesNoneByARefusedPatch() {
        DUE.sentence("T1", "and its PATH is not RIGHT any more behind that");
        MarlStore x = new MarlStore();
        Build.document(x, 1, "[[n]]");
        x.addPatch();
        x.point(1);
        x.addOperation(0, DROP, 0);
        x.addOperation(0, DROP, 0);
        Build.at(x, 1, 0, 0);
        DUE.call(x, -1, "apply", 0, 1);
        DUE.call(x, 1, "failsAt", 0, 1);
        DUE.is("the path", Build.path(x), "0.0");
    }

    /** In between the PATH is not RIGHT, but behind the whole call it is again. */
    private static void losesNoneInBetween() {
        DUE.sentence("T1", "by whatever call, and its PATH is not RIGHT any more behind that");
        MarlStore x = new MarlStore();
        x.addPatch();
        x.addOperation(0, DROP, 0);
        Build.clip(x, 1, "[n]");
        x.addOperation(0, ADD, 0);
        Build.document(x, 0, "[[t]]");
        Build.at(x, 0, 0, 0);
        DUE.call(x, 1, "apply", 0, 0);
        DUE.is("the path", Build.path(x), "0.0");
        x.addQuery();
        x.addPart(0, 2, 0);
        x.addPart(0, 4, 5);
        Build.document(x, 2, "[1,[2],[6]]");
        Build.at(x, 2, 1, 0);
        DUE.call(x, 4, "dropFound", 0, 2);
        DUE.is("the path", Build.path(x), "1.0");
        DUE.reads(x, 2, "[[],[6]]");
    }
}
