/** The boundary cases that promises 31 to 37, and term 4, name: a test for each. */
public final class SchemaEdgesTest {
    private static final Due DUE = new Due("SchemaEdgesTest");
    private static final int MIN = Integer.MIN_VALUE;
    private static final int MAX = Integer.MAX_VALUE;
    private static final String[] NONE = {};

    public static void main(String[] args) {
        tenSchemas();
        allIsAllowedAtFirst();
        noSuchSchemaToSet();
        setsOfKinds();
        leastNumbers();
        greatestNumbers();
        kindsBefore();
        noSuchSchemaOfChildren();
        leastChildren();
        mostChildren();
        itemBefore();
        noSuchSchemaOfAKey();
        noSuchKey();
        fourKeys();
        inPlaceOfOne();
        noKindIsAllowed();
        aKindIsNotAllowed();
        nothingMoreIsNoted();
        numbersOutOfTheRange();
        oneNumberAlone();
        tooFewChildren();
        tooManyChildren();
        onlyOnce();
        noCountOfPlainOnes();
        neededKeys();
        neededKeysByKeys();
        neededKeysOfAnotherKind();
        itemsOfAList();
        restOfAnObject();
        keysThatMustNotBeThere();
        ownOnesAheadOfTheRest();
        withinItself();
        childByChild();
        manyFailures();
        noSuchDocumentOrSchema();
        noSuchFailure();
        thePointerIsThere();
        documentsWithoutFailures();
        setsAreSums();
        noSuchSchemaToFit();
        DUE.end();
    }

    private static MarlStore with(String document, int schemas) {
        MarlStore x = new MarlStore();
        Build.document(x, 2, document);
        for (int i = 0; i < schemas; i++) {
            x.addSchema();
        }
        return x;
    }

    /** By the SCHEMA 0 the DOCUMENT 2 has these FAILURES, told as "CODE@STEP.STEP". */
    private static void fails(MarlStore x, String... due) {
        DUE.call(x, due.length, "check", 2, 0);
        for (int i = 0; i < due.length; i++) {
            int code = x.pointFailure(2, 0, i);
            DUE.is("failure " + i, code + "@" + Build.path(x), due[i]);
        }
        DUE.bounds(x, "pointFailure", 2, 0, due.length);
    }

    private static void fails(MarlStore x, String document, String[] due) {
        Build.document(x, 2, document);
        fails(x, due);
    }

    private static void tenSchemas() {
        DUE.sentence("31", "if there are 10");
        MarlStore x = new MarlStore();
        DUE.bounds(x, "fitting", 0);
        for (int i = 0; i < 10; i++) {
            DUE.call(x, i, "addSchema");
            DUE.call(x, 63, "fitting", i);
            DUE.bounds(x, "fitting", i + 1);
        }
        DUE.state(x, "addSchema");
        DUE.bounds(x, "fitting", 10);
        DUE.sentence("T4", "At most 10, numbered from 0");
        DUE.call(x, 0, "check", 0, 0);
        DUE.call(x, 0, "check", 0, 9);
        DUE.call(x, 1, "setKey", 9, 99, 9, 1);
    }

    private static void allIsAllowedAtFirst() {
        DUE.sentence("31", "Adds a SCHEMA by which all is allowed");
        String[] all = {"n", "f", "t", "-9999", "9999", "[]", "{}", "[n,[5]]", "{0:[],99:{1:t}}",
            Build.list(49, "n"), Build.object(0, 49, "n"), Build.nested(7)};
        for (String one : all) {
            fails(with(one, 1), NONE);
        }
        DUE.sentence("T4", "a set of KINDS that are allowed (31, at first)");
        DUE.call(with("n", 1), 31, "setKinds", 0, 31, 0, 0);
        DUE.sentence("T4", "ITEM: a SCHEMA for CHILDREN of a LIST, or -1 (at first)");
        DUE.call(with("n", 1), -1, "setChildren", 0, 0, 0, -1, -1);
    }

    private static void noSuchSchemaToSet() {
        DUE.sentence("32", "if there is no such SCHEMA");
        MarlStore x = new MarlStore();
        DUE.bounds(x, "setKinds", 0, 31, 0, 0);
        x.addSchema();
        x.addSchema();
        for (int schema : new int[] {-2, -1, 2, 9, 10, MIN, MAX}) {
            DUE.bounds(x, "setKinds", schema, 31, 0, 0);
        }
        DUE.call(x, 31, "setKinds", 1, 31, 0, 0);
    }

    private static void setsOfKinds() {
        DUE.sentence("32", "if kinds is not 0 to 31");
        MarlStore x = with("n", 1);
        for (int kinds : new int[] {-1, 32, 33, MIN, MAX}) {
            DUE.argument(x, "setKinds", 0, kinds, 0, 0);
        }
        DUE.call(x, 63, "fitting", 0);
        DUE.call(x, 31, "setKinds", 0, 0, 0, 0);
        DUE.call(x, 0, "setKinds", 0, 31, 0, 0);
        DUE.call(x, 31, "setKinds", 0, 31, 0, 0);
    }

    private static void leastNumbers() {
        DUE.sentence("32", "low is not -9999 to 9999");
        MarlStore x = with("-9999", 1);
        for (int low : new int[] {-10000, 10000, MIN, MAX}) {
            DUE.argument(x, "setKinds", 0, 31, low, 9999);
            DUE.argument(x, "setKinds", 0, 31, low, low);
        }
        fails(x, NONE);
        DUE.call(x, 31, "setKinds", 0, 31, 9999, 9999);
        fails(x, "2@");
        DUE.call(x, 31, "setKinds", 0, 31, -9999, 9999);
        fails(x, NONE);
    }

    private static void greatestNumbers() {
        DUE.sentence("32", "or high is not low to 9999");
        MarlStore x = with("9999", 1);
        for (int high : new int[] {4, 10000, -9999, MIN, MAX}) {
            DUE.argument(x, "setKinds", 0, 31, 5, high);
        }
        DUE.argument(x, "setKinds", 0, 31, -9999, -10000);
        DUE.argument(x, "setKinds", 0, 31, 9999, 9998);
        fails(x, NONE);
        DUE.call(x, 31, "setKinds", 0, 31, 5, 5);
        fails(x, "2@");
        DUE.call(x, 31, "setKinds", 0, 31, -9999, -9999);
        fails(x, "2@");
        DUE.call(x, 31, "setKinds", 0, 31, 5, 9999);
        fails(x, NONE);
    }

    private static void kindsBefore() {
        DUE.sentence("32", "Returns the set of KINDS before");
        MarlStore x = with("n", 2);
        int before = 31;
        for (int kinds = 0; kinds <= 31; kinds++) {
            DUE.call(x, before, "setKinds", 1, kinds, 0, 0);
            before = kinds;
        }
        DUE.call(x, 31, "setKinds", 0, 31, 0, 0);
    }

    private static void noSuchSchemaOfChildren() {
        DUE.sentence("33", "(schema; item, if it is not -1; rest, if it is not -1 or -2)");
        MarlStore x = new MarlStore();
        DUE.bounds(x, "setChildren", 0, 0, 50, -1, -1);
        x.addSchema();
        x.addSchema();
        for (int schema : new int[] {-2, -1, 2, 9, 10, MIN, MAX}) {
            DUE.bounds(x, "setChildren", schema, 0, 50, -1, -1);
        }
        for (int item : new int[] {-3, -2, 2, 9, 10, MIN, MAX}) {
            DUE.bounds(x, "setChildren", 0, 0, 50, item, -1);
        }
        for (int rest : new int[] {-4, -3, 2, 9, 10, MIN, MAX}) {
            DUE.bounds(x, "setChildren", 0, 0, 50, -1, rest);
        }
        DUE.call(x, -1, "setChildren", 1, 0, 50, 0, -1);
        DUE.call(x, 0, "setChildren", 1, 0, 50, 1, -2);
        DUE.call(x, 1, "setChildren", 1, 0, 50, -1, 0);
        DUE.call(x, -1, "setChildren", 1, 0, 50, -1, 1);
    }

    private static void leastChildren() {
        DUE.sentence("33", "if least is not 0 to 50");
        MarlStore x = with("[n]", 1);
        for (int least : new int[] {-1, 51, MIN, MAX}) {
            DUE.argument(x, "setChildren", 0, least, 50, -1, -1);
            DUE.argument(x, "setChildren", 0, least, least, -1, -1);
        }
        fails(x, NONE);
        DUE.call(x, -1, "setChildren", 0, 50, 50, -1, -1);
        fails(x, "3@");
        DUE.call(x, -1, "setChildren", 0, 0, 50, -1, -1);
        fails(x, NONE);
    }

    private static void mostChildren() {
        DUE.sentence("33", "or most is not least to 50");
        MarlStore x = with("[n]", 1);
        for (int most : new int[] {-1, 2, 51, MIN, MAX}) {
            DUE.argument(x, "setChildren", 0, 3, most, -1, -1);
        }
        DUE.argument(x, "setChildren", 0, 0, -1, -1, -1);
        DUE.argument(x, "setChildren", 0, 50, 49, -1, -1);
        fails(x, NONE);
        DUE.call(x, -1, "setChildren", 0, 3, 3, -1, -1);
        fails(x, "3@");
        DUE.call(x, -1, "setChildren", 0, 0, 0, -1, -1);
        fails(x, "3@");
        DUE.call(x, -1, "setChildren", 0, 1, 1, -1, -1);
        fails(x, NONE);
    }

    private static void itemBefore() {
        DUE.sentence("33", "Returns ITEM before");
        MarlStore x = with("n", 10);
        DUE.call(x, -1, "setChildren", 9, 0, 50, 0, -1);
        DUE.call(x, 0, "setChildren", 9, 0, 50, 9, -2);
        DUE.call(x, 9, "setChildren", 9, 0, 50, -1, 9);
        DUE.call(x, -1, "setChildren", 9, 0, 50, -1, 0);
    }

    private static void noSuchSchemaOfAKey() {
        DUE.sentence("34", "if there is no such SCHEMA (one of the two)");
        MarlStore x = new MarlStore();
        DUE.bounds(x, "setKey", 0, 5, 0, 0);
        x.addSchema();
        x.addSchema();
        for (int schema : new int[] {-2, -1, 2, 9, 10, MIN, MAX}) {
            DUE.bounds(x, "setKey", schema, 5, 0, 1);
            DUE.bounds(x, "setKey", 0, 5, schema, 1);
        }
        DUE.call(x, 1, "setKey", 0, 5, 1, 1);
        DUE.call(x, 1, "setKey", 1, 5, 1, 1);
    }

    private static void noSuchKey() {
        DUE.sentence("34", "if key is not 0 to 99");
        MarlStore x = with("{}", 1);
        for (int key : new int[] {-1, 100, 101, MIN, MAX}) {
            DUE.argument(x, "setKey", 0, key, 0, 1);
        }
        fails(x, NONE);
        DUE.call(x, 1, "setKey", 0, 99, 0, 1);
        DUE.call(x, 2, "setKey", 0, 0, 0, 1);
        fails(x, "4@", "4@");
    }

    private static void fourKeys() {
        DUE.sentence("34", "if 4 others have one");
        MarlStore x = with("{}", 1);
        int[] keys = {50, 0, 99, 51};
        for (int i = 0; i < 4; i++) {
            DUE.call(x, i + 1, "setKey", 0, keys[i], 0, 0);
        }
        for (int key : new int[] {1, 49, 52, 98}) {
            DUE.state(x, "setKey", 0, key, 0, 1);
        }
        fails(x, NONE);
        DUE.sentence("34", "Returns how many KEYS have an own one then");
        for (int key : keys) {
            DUE.call(x, 4, "setKey", 0, key, 0, 1);
        }
        fails(x, "4@", "4@", "4@", "4@");
    }

    private static void inPlaceOfOne() {
        DUE.sentence("34", "Gives a KEY of a SCHEMA an own one, in place of one that it has");
        MarlStore x = with("{7:n}", 3);
        x.setKinds(1, 2, 0, 0);
        DUE.call(x, 1, "setKey", 0, 7, 1, 0);
        fails(x, "1@7");
        DUE.call(x, 1, "setKey", 0, 7, 2, 1);
        fails(x, NONE);
        fails(x, "{}", new String[] {"4@"});
        DUE.call(x, 1, "setKey", 0, 7, 1, 0);
        fails(x, NONE);
        fails(x, "{7:n}", new String[] {"1@7"});
    }

    private static void noKindIsAllowed() {
        DUE.sentence("T4", "CODE 1, if its KIND is not allowed");
        for (String one : new String[] {"n", "t", "5", "[]", "{}", "[n]"}) {
            MarlStore x = with(one, 1);
            x.setKinds(0, 0, -9999, 9999);
            fails(x, "1@");
        }
    }

    private static void aKindIsNotAllowed() {
        DUE.sentence("T4", "a set of KINDS that are allowed");
        String[] all = {"n", "t", "5", "[]", "{}"};
        for (int kind = 0; kind < 5; kind++) {
            for (int i = 0; i < 5; i++) {
                MarlStore x = with(all[i], 1);
                x.setKinds(0, 1 << kind, -9999, 9999);
                fails(x, i == kind ? NONE : new String[] {"1@"});
                x.setKinds(0, 31 - (1 << kind), -9999, 9999);
                fails(x, i == kind ? new String[] {"1@"} : NONE);
            }
        }
    }

    private static void nothingMoreIsNoted() {
        DUE.sentence("T4", "(then nothing more is noted of it, nor of what is beneath it)");
        MarlStore x = with("5", 1);
        x.setKinds(0, 27, 9, 9);
        fails(x, "1@");
        x = with("{5:{},6:[]}", 1);
        x.setKinds(0, 15, 0, 0);
        x.setChildren(0, 9, 9, 0, -2);
        x.setKey(0, 7, 0, true);
        fails(x, "1@");
        x = with("[[n],[n]]", 2);
        x.setChildren(0, 0, 50, 1, -1);
        x.setKinds(1, 22, 0, 0);
        x.setChildren(1, 9, 9, 1, 1);
        fails(x, "1@0", "1@1");
    }

    private static void numbersOutOfTheRange() {
        DUE.sentence("T4", "2, if it is a NUMBER out of the range");
        String[] in = {"-3", "0", "8", "n", "f", "t", "[]", "{}"};
        String[] out = {"-4", "9", "-9999", "9999"};
        for (String one : in) {
            MarlStore x = with(one, 1);
            x.setKinds(0, 31, -3, 8);
            fails(x, NONE);
        }
        for (String one : out) {
            MarlStore x = with(one, 1);
            x.setKinds(0, 31, -3, 8);
            fails(x, "2@");
        }
        DUE.sentence("T4", "the least and the greatest NUMBER (-9999, 9999)");
        fails(with("-9999", 1), NONE);
        fails(with("9999", 1), NONE);
    }

    private static void oneNumberAlone() {
        DUE.sentence("32", "the greatest NUMBER from now on");
        MarlStore x = with("[4,5,6]", 2);
        x.setChildren(0, 0, 50, 1, -1);
        x.setKinds(1, 31, 5, 5);
        fails(x, "2@0", "2@2");
        x.setKinds(1, 4, 0, 0);
        fails(x, "2@0", "2@1", "2@2");
        fails(x, "[t,f]", new String[] {"1@0", "1@1"});
    }

    private static void tooFewChildren() {
        DUE.sentence("T4", "if it is a LIST or an OBJECT with too few");
        MarlStore x = with("n", 1);
        x.setChildren(0, 2, 50, -1, -1);
        for (String one : new String[] {"[]", "{}", "[n]", "{0:n}", "[[n,n,n]]"}) {
            fails(x, one, new String[] {"3@"});
        }
        for (String one : new String[] {"[n,n]", "{0:n,99:n}", "[n,n,n]"}) {
            fails(x, one, NONE);
        }
        DUE.sentence("T4", "the least and the greatest number of CHILDREN (0, 50)");
        x = with("[]", 1);
        fails(x, NONE);
        fails(x, Build.list(49, "n"), NONE);
    }

    private static void tooManyChildren() {
        DUE.sentence("T4", "or too many CHILDREN");
        MarlStore x = with("n", 1);
        x.setChildren(0, 0, 2, -1, -1);
        for (String one : new String[] {"[n,n,n]", "{0:n,5:n,99:n}"}) {
            fails(x, one, new String[] {"3@"});
        }
        for (String one : new String[] {"[]", "{}", "[n,n]", "{0:n,99:n}", "[[n,n,n]]"}) {
            fails(x, one, NONE);
        }
        x.setChildren(0, 0, 0, -1, -1);
        fails(x, "[]", NONE);
        fails(x, "{}", NONE);
        fails(x, "[n]", new String[] {"3@"});
        x.setChildren(0, 49, 49, -1, -1);
        fails(x, Build.list(49, "n"), NONE);
        fails(x, Build.list(48, "n"), new String[] {"3@"});
        x.setChildren(0, 0, 48, -1, -1);
        fails(x, Build.list(49, "n"), new String[] {"3@"});
    }

    private static void onlyOnce() {
        DUE.sentence("T4", "3, once");
        MarlStore x = with("[n,n,n,n,n]", 1);
        x.setChildren(0, 1, 1, -1, -1);
        fails(x, "3@");
        fails(x, "{}", new String[] {"3@"});
        x.setChildren(0, 9, 9, -1, -1);
        fails(x, "[]", new String[] {"3@"});
    }

    private static void noCountOfPlainOnes() {
        DUE.sentence("T4", "if it is a LIST or an OBJECT");
        MarlStore x = with("n", 1);
        x.setChildren(0, 1, 1, -1, -1);
        for (String one : new String[] {"n", "t", "5"}) {
            fails(x, one, NONE);
        }
    }

    private static void neededKeys() {
        DUE.sentence("T4", "4 for each KEY that is NEEDED, but not there");
        MarlStore x = with("{}", 2);
        x.setKey(0, 0, 1, true);
        x.setKey(0, 99, 1, true);
        x.setKey(0, 50, 1, false);
        fails(x, "4@", "4@");
        fails(x, "{0:n}", new String[] {"4@"});
        fails(x, "{99:n}", new String[] {"4@"});
        fails(x, "{0:n,99:n}", NONE);
        fails(x, "{1:n,50:n,98:n}", new String[] {"4@", "4@"});
        DUE.sentence("T4", "(with the PATH of the OBJECT)");
        x.setChildren(1, 0, 50, -1, 0);
        x.setKey(0, 5, 0, false);
        fails(x, "{0:n,5:{5:{99:n}},99:n}", new String[] {"4@5", "4@5", "4@5.5"});
    }

    /** The FAILURES of one OBJECT by KEYS come ahead of those of its CHILDREN. */
    private static void neededKeysByKeys() {
        DUE.sentence("T4", "by KEYS, if it is an OBJECT");
        MarlStore x = with("{1:n,5:t}", 2);
        x.setKinds(1, 2, 0, 0);
        x.setKey(0, 9, 1, true);
        x.setKey(0, 1, 1, true);
        x.setKey(0, 0, 1, true);
        fails(x, "4@", "4@", "1@1");
    }

    private static void neededKeysOfAnotherKind() {
        DUE.sentence("T4", "and whether it is NEEDED");
        MarlStore x = with("n", 1);
        x.setKey(0, 0, 0, true);
        for (String one : new String[] {"n", "t", "5", "[]", "[n]"}) {
            fails(x, one, NONE);
        }
        fails(x, "{}", new String[] {"4@"});
        x.setKey(0, 0, 0, false);
        fails(x, "{}", NONE);
    }

    private static void itemsOfAList() {
        DUE.sentence("T4", "ITEM: a SCHEMA for CHILDREN of a LIST, or -1");
        MarlStore x = with("[n,t,[n],{0:n}]", 2);
        x.setKinds(1, 1, 0, 0);
        fails(x, NONE);
        x.setChildren(0, 0, 50, 1, -1);
        fails(x, "1@1", "1@2", "1@3");
        fails(x, "[]", NONE);
        fails(x, "{5:t}", NONE);
        x.setChildren(0, 0, 50, -1, -1);
        fails(x, "[t]", NONE);
        x.setChildren(0, 0, 50, -1, 1);
        fails(x, "[t]", NONE);
        x.setKey(0, 0, 1, true);
        fails(x, "[t]", NONE);
    }

    private static void restOfAnObject() {
        DUE.sentence("T4", "REST: a SCHEMA for CHILDREN of an OBJECT whose KEY has no own one");
        MarlStore x = with("{0:t,5:t,99:n}", 3);
        x.setKinds(1, 1, 0, 0);
        x.setKey(0, 5, 2, false);
        x.setChildren(0, 0, 50, -1, 1);
        fails(x, "1@0");
        fails(x, "{}", NONE);
        fails(x, "[t]", NONE);
        DUE.sentence("T4", "-1 if these can be anything (at first)");
        x.setChildren(0, 0, 50, -1, -1);
        fails(x, "{0:t,5:t,99:{1:t}}", NONE);
    }

    private static void keysThatMustNotBeThere() {
        DUE.sentence("T4", "for a KEY that must not be there, CODE 5 with the PATH of the CHILD");
        MarlStore x = with("{}", 1);
        x.setChildren(0, 0, 50, 0, -2);
        fails(x, NONE);
        fails(x, "{0:n}", new String[] {"5@0"});
        fails(x, "{0:{1:n},99:[n]}", new String[] {"5@0", "5@99"});
        fails(x, "[n,{7:n}]", new String[] {"5@1.7"});
        DUE.sentence("T4", "-2 if there must be none");
        x.setKey(0, 0, 0, false);
        fails(x, "{0:{0:n,1:n},99:n}", new String[] {"5@0.1", "5@99"});
    }

    private static void ownOnesAheadOfTheRest() {
        DUE.sentence("T4", "for at most 4 KEYS an own SCHEMA");
        MarlStore x = with("{0:n,1:n,2:n,3:n,4:n}", 3);
        x.setKinds(1, 2, 0, 0);
        x.setKinds(2, 4, 0, 0);
        x.setChildren(0, 0, 50, -1, 1);
        for (int key = 3; key >= 0; key--) {
            x.setKey(0, key, 2, false);
        }
        fails(x, "1@0", "1@1", "1@2", "1@3", "1@4");
        fails(x, "{0:0,1:0,2:0,3:0,4:t}", NONE);
        fails(x, "{0:t,3:1,99:0}", new String[] {"1@0", "2@3", "1@99"});
    }

    private static void withinItself() {
        DUE.sentence("T4", "what comes of CHECKING this by its SCHEMA");
        MarlStore x = with(Build.nested(7), 1);
        x.setChildren(0, 1, 1, 0, 0);
        fails(x, "3@0.0.0.0.0.0");
        x.setKinds(0, 31, 5, 5);
        fails(x, "{0:{1:{2:{3:{4:{5:4}}}}}}", new String[] {"2@0.1.2.3.4.5"});
        x.setKinds(0, 16, 0, 0);
        fails(x, "{0:{1:{2:{3:{4:{5:4}}}}}}", new String[] {"1@0.1.2.3.4.5"});
    }

    private static void childByChild() {
        DUE.sentence("T4", "in this order");
        MarlStore x = with("{9:{3:9},5:7,0:[7,{},[]],99:n}", 2);
        x.setKinds(0, 30, 0, 6);
        x.setChildren(0, 2, 3, 0, 0);
        x.setKey(0, 50, 1, true);
        x.setKey(0, 5, 0, true);
        fails(x, "3@", "4@", "2@0.0", "3@0.1", "4@0.1", "4@0.1", "3@0.2", "2@5", "3@9", "4@9",
                "4@9", "2@9.3", "1@99");
    }

    private static void manyFailures() {
        DUE.sentence("35", "Returns how many FAILURES there are");
        MarlStore x = with(Build.object(0, 49, "{}"), 2);
        x.setChildren(0, 0, 0, -1, 1);
        x.setChildren(1, 1, 1, -1, -1);
        for (int key = 96; key <= 99; key++) {
            x.setKey(0, key, 0, true);
            x.setKey(1, key, 0, true);
        }
        DUE.call(x, 5 + 49 * 5, "check", 2, 0);
        DUE.call(x, 3, "pointFailure", 2, 0, 0);
        DUE.call(x, 4, "pointFailure", 2, 0, 4);
        DUE.call(x, 0, "steps");
        DUE.call(x, 4, "pointFailure", 2, 0, 249);
        DUE.call(x, 48, "stepAt", 0);
        DUE.bounds(x, "pointFailure", 2, 0, 250);
        DUE.call(x, 0, "check", 0, 0);
    }

    private static void noSuchDocumentOrSchema() {
        DUE.sentence("35", "if there is no such DOCUMENT, or SCHEMA");
        MarlStore x = new MarlStore();
        DUE.bounds(x, "check", 0, 0);
        x.addSchema();
        for (int document : new int[] {-1, 6, 7, MIN, MAX}) {
            DUE.bounds(x, "check", document, 0);
        }
        for (int schema : new int[] {-2, -1, 1, 9, 10, MIN, MAX}) {
            DUE.bounds(x, "check", 0, schema);
        }
        DUE.call(x, 0, "check", 0, 0);
        DUE.call(x, 0, "check", 5, 0);
        DUE.sentence("36", "if there is no such DOCUMENT, SCHEMA, or FAILURE");
        x.setKinds(0, 0, 0, 0);
        for (int document : new int[] {-1, 6, 7, MIN, MAX}) {
            DUE.bounds(x, "pointFailure", document, 0, 0);
        }
        for (int schema : new int[] {-2, -1, 1, 9, 10, MIN, MAX}) {
            DUE.bounds(x, "pointFailure", 0, schema, 0);
        }
        DUE.call(x, 1, "pointFailure", 0, 0, 0);
        DUE.call(x, 1, "pointFailure", 5, 0, 0);
    }

    private static void noSuchFailure() {
        DUE.sentence("36", "the number of a FAILURE, from 0");
        MarlStore x = with("[t,n,n]", 2);
        Build.at(x, 2, 0);
        for (int failure : new int[] {-1, 0, 1, MIN, MAX}) {
            DUE.bounds(x, "pointFailure", 2, 0, failure);
        }
        x.setKinds(1, 2, 0, 0);
        x.setChildren(0, 0, 50, 1, -1);
        for (int failure : new int[] {-1, 2, 3, MIN, MAX}) {
            DUE.bounds(x, "pointFailure", 2, 0, failure);
        }
        DUE.is("the path", Build.path(x), "0");
        DUE.call(x, 1, "pointFailure", 2, 0, 1);
        DUE.is("the path", Build.path(x), "2");
        DUE.call(x, 1, "pointFailure", 2, 0, 0);
        DUE.is("the path", Build.path(x), "1");
    }

    private static void thePointerIsThere() {
        DUE.sentence("36", "the POINTER is where it is noted then");
        MarlStore x = with("[[[[[[5]]]]]]", 1);
        x.setChildren(0, 0, 50, 0, 0);
        x.setKinds(0, 31, 0, 4);
        x.point(5);
        DUE.call(x, 2, "pointFailure", 2, 0, 0);
        DUE.call(x, 2, "document");
        DUE.call(x, 6, "steps");
        DUE.call(x, 5, "number");
        x.setKinds(0, 23, 0, 4);
        DUE.call(x, 1, "pointFailure", 2, 0, 0);
        DUE.call(x, 0, "steps");
        DUE.call(x, 3, "kind");
    }

    private static void documentsWithoutFailures() {
        DUE.sentence("37", "Returns the set of DOCUMENTS without FAILURES");
        MarlStore x = new MarlStore();
        x.addSchema();
        DUE.call(x, 63, "fitting", 0);
        x.setKinds(0, 30, 0, 0);
        DUE.call(x, 0, "fitting", 0);
        for (int i = 0; i < 6; i++) {
            x.point(i);
            x.set(1, 1);
            DUE.call(x, (2 << i) - 1, "fitting", 0);
        }
        x.point(0);
        x.set(0, 0);
        DUE.call(x, 62, "fitting", 0);
        x.point(5);
        x.set(0, 0);
        DUE.call(x, 30, "fitting", 0);
    }

    private static void setsAreSums() {
        DUE.sentence("T", "Sets are told as numbers: the sum of 2^k for each k in it");
        MarlStore x = new MarlStore();
        x.addSchema();
        x.setKinds(0, 2, 0, 0);
        for (int i = 0; i < 6; i++) {
            x.point(i);
            x.set(1, 0);
            DUE.call(x, 1 << i, "fitting", 0);
            x.set(0, 0);
        }
        for (int kind = 0; kind < 5; kind++) {
            x.setKinds(0, 1 << kind, 0, 0);
            x.set(kind, 0);
            DUE.call(x, 0, "check", 5, 0);
        }
    }

    private static void noSuchSchemaToFit() {
        DUE.sentence("37", "if there is no such SCHEMA");
        MarlStore x = new MarlStore();
        DUE.bounds(x, "fitting", 0);
        x.addSchema();
        for (int schema : new int[] {-2, -1, 1, 9, 10, MIN, MAX}) {
            DUE.bounds(x, "fitting", schema);
        }
        DUE.call(x, 63, "fitting", 0);
    }
}
