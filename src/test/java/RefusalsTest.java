import java.util.Arrays;

/**
 * The two sentences behind the terms: each call that throws, or that answers that it was not done,
 * is made on an object in which all is full and set, and must leave it as another one is.
 */
public final class RefusalsTest {
    private static final Due DUE = new Due("RefusalsTest");

    /** By the SCHEMA 0 a change of any of its settings is a change of the FAILURES of this. */
    private static final String PROBES = "[-6,-5,5,6,t,[],[n],[1,1,1],[1,1,1,1],{},"
            + "{0:n,1:[],7:{5:n},50:-6,99:[]},{0:1,99:1}]";

    /** The first sign tells the exception (B bounds, A argument, S state), - that -1 is due. */
    private static final String[] REFUSED = {
        "B point -1", "B point 6", "B into -1", "B into 0", "B into 4", "B stepAt -1", "B stepAt 2",
        "A set -1 0", "A set 5 0", "A set 1 -1", "A set 1 2", "A set 2 -10000", "A set 2 10000",
        "- paste", "- insert 3", "- insert 0", "- insert -1", "- insert 100", "- drop 0", "- drop -1",
        "B childStep -1", "B childStep 1", "B size -1", "B size 6", "B depth -1", "B depth 6",
        "S addPatch", "B addOperation -1 0 0", "B addOperation 8 0 0", "A addOperation 1 -1 0",
        "A addOperation 1 4 0", "A addOperation 1 0 -1", "A addOperation 1 0 100",
        "A addOperation 1 1 -1", "A addOperation 1 1 100", "S addOperation 0 2 0",
        "B apply -1 0", "B apply 8 0", "B apply 0 -1", "B apply 0 6", "- apply 2 0", "- apply 3 0",
        "B failsAt -1 0", "B failsAt 8 0", "B failsAt 0 -1", "B failsAt 0 6", "B diff -1 0",
        "B diff 6 0", "B diff 0 -1", "B diff 0 6", "S diff 0 1", "S diff 0 0", "S diff 4 2",
        "B operations -1", "B operations 8", "B ofOperation -1 0 0", "B ofOperation 8 0 0",
        "B ofOperation 0 -1 0", "B ofOperation 0 20 0", "A ofOperation 0 0 -1", "A ofOperation 0 0 4",
        "B difference -1 0", "B difference 6 0", "B difference 0 -1", "B difference 0 6",
        "B changes -1 0", "B changes 6 0", "B changes 0 -1", "B changes 0 6",
        "S addSchema", "B setKinds -1 0 0 0", "B setKinds 10 0 0 0", "A setKinds 0 -1 0 0",
        "A setKinds 0 32 0 0", "A setKinds 0 0 -10000 0", "A setKinds 0 0 10000 10000",
        "A setKinds 0 0 5 4", "A setKinds 0 0 0 10000", "B setChildren -1 0 50 -1 -1",
        "B setChildren 10 0 50 -1 -1", "B setChildren 0 0 50 -2 -1", "B setChildren 0 0 50 10 -1",
        "B setChildren 0 0 50 -1 -3", "B setChildren 0 0 50 -1 10", "A setChildren 0 -1 50 -1 -1",
        "A setChildren 0 51 51 -1 -1", "A setChildren 0 3 2 -1 -1", "A setChildren 0 0 51 -1 -1",
        "B setKey -1 0 1 0", "B setKey 10 0 1 0", "B setKey 0 0 -1 0", "B setKey 0 0 10 0",
        "A setKey 0 -1 1 1", "A setKey 0 100 1 1", "S setKey 0 1 1 1", "B check -1 0", "B check 6 0",
        "B check 0 -1", "B check 0 10", "B pointFailure -1 0 0", "B pointFailure 6 0 0",
        "B pointFailure 2 -1 0", "B pointFailure 2 10 0", "B pointFailure 2 0 -1",
        "B pointFailure 2 0 99", "B fitting -1", "B fitting 10", "S addQuery", "B addPart -1 1 0",
        "B addPart 6 1 0", "A addPart 1 -1 0", "A addPart 1 7 0", "A addPart 1 0 -1",
        "A addPart 1 0 100", "A addPart 1 5 -1", "A addPart 1 5 100", "A addPart 1 4 -10000",
        "A addPart 1 4 10000", "A addPart 1 6 -1", "A addPart 1 6 5", "S addPart 0 1 0",
        "B found -1 0", "B found 6 0", "B found 0 -1", "B found 0 6", "B pointFound -1 0 0",
        "B pointFound 6 0 0", "B pointFound 1 -1 0", "B pointFound 1 6 0", "B pointFound 1 0 -1",
        "B pointFound 1 0 99", "B having -1 0 0", "B having 6 0 0", "A having 1 5 4", "B mean -1 0",
        "B mean 6 0", "B mean 1 -1", "B mean 1 6", "B dropFound -1 0", "B dropFound 6 0",
        "B dropFound 1 -1", "B dropFound 1 6"};

    /** Of each of these more than one exception applies. */
    private static final String[] FIRST_NAMED = {
        "B addOperation 8 4 0", "B addOperation 8 0 100", "B addOperation -1 -1 -1",
        "A addOperation 0 4 0", "A addOperation 0 0 100", "A addOperation 0 1 -1", "B diff 6 0",
        "B diff 0 6", "B diff -1 -1", "B ofOperation 8 0 4", "B ofOperation 0 20 4",
        "B ofOperation -1 -1 -1", "B setKinds 10 32 0 0", "B setKinds -1 0 5 4",
        "B setChildren 10 -1 50 -1 -1", "B setChildren 0 -1 50 10 -1", "B setChildren 0 0 51 -1 -3",
        "B setChildren 0 3 2 -2 -1", "B setKey 10 100 1 1", "B setKey 0 100 10 1",
        "B setKey 0 1 10 1", "A setKey 0 100 1 1", "A setKey 0 -1 1 1", "B addPart 6 7 0",
        "B addPart -1 0 100", "A addPart 0 7 0", "A addPart 0 0 100", "A addPart 0 4 10000",
        "A addPart 0 6 5", "B having 6 5 4", "B having -1 1 0"};

    public static void main(String[] args) {
        String asItWas = told(full());
        DUE.sentence("T", "A method that throws an exception changes nothing");
        for (String call : REFUSED) {
            refuses(full(), call, asItWas);
        }
        atTheWhole();
        withoutPatches();
        DUE.sentence("T", "If several exceptions apply, the one that is named first is thrown");
        for (String call : FIRST_NAMED) {
            refuses(full(), call, asItWas);
        }
        DUE.end();
    }

    private static void refuses(MarlStore x, String line, String asItWas) {
        String[] words = line.split(" ");
        int[] arguments = new int[words.length - 2];
        for (int i = 0; i < arguments.length; i++) {
            arguments[i] = Integer.parseInt(words[i + 2]);
        }
        String due = switch (words[0]) {
            case "B" -> "throws.IndexOutOfBoundsException";
            case "A" -> "throws.IllegalArgumentException";
            case "S" -> "throws.IllegalStateException";
            default -> "-1";
        };
        String call = words[1] + Arrays.toString(arguments);
        DUE.is(call, Calls.of(x, words[1], arguments), due);
        DUE.is("what all is behind " + call, told(x), asItWas);
    }

    private static void atTheWhole() {
        MarlStore twin = full();
        twin.point(0);
        String asItWas = told(twin);
        for (String call : new String[] {"S up", "B stepAt 0", "B into 2", "- drop 2", "- insert 3"}) {
            MarlStore x = full();
            x.point(0);
            refuses(x, call, asItWas);
        }
    }

    private static void withoutPatches() {
        MarlStore twin = full();
        MarlStore x = full();
        for (int i = 0; i < 8; i++) {
            twin.forget();
            x.forget();
        }
        refuses(x, "S forget", told(twin));
    }

    /** All that can be full is full: PATCHES, SCHEMAS, QUERIES; the first of each too. */
    private static MarlStore full() {
        MarlStore x = new MarlStore();
        Build.document(x, 0, "[[1,{3:t}],5]");
        Build.document(x, 1, "[[1,{3:f}],[5]]");
        Build.document(x, 2, PROBES);
        Build.document(x, 4, "{}");
        patches(x);
        schemas(x);
        queries(x);
        Build.clip(x, 3, Build.nested(6));
        Build.at(x, 0, 0, 1);
        return x;
    }

    private static void patches(MarlStore x) {
        x.addPatch();
        for (int i = 0; i < 20; i++) {
            x.addOperation(0, 3, 0);
        }
        x.point(0);
        x.addPatch();
        x.addOperation(1, 0, 1);
        x.addPatch();
        x.addOperation(2, 0, 2);
        x.addOperation(2, 1, 9);
        x.addPatch();
        Build.clip(x, 3, Build.nested(7));
        x.point(0);
        x.addOperation(3, 0, 1);
        x.diff(0, 1);
        for (int i = 5; i < 8; i++) {
            x.addPatch();
        }
    }

    private static void schemas(MarlStore x) {
        for (int i = 0; i < 10; i++) {
            x.addSchema();
        }
        x.setKinds(0, 30, -5, 5);
        x.setChildren(0, 1, 3, 0, 2);
        x.setKey(0, 0, 1, true);
        x.setKey(0, 7, 2, false);
        x.setKey(0, 50, 0, false);
        x.setKey(0, 99, 1, true);
        x.setKinds(1, 7, -9999, 9999);
        x.setChildren(2, 0, 50, -1, -2);
    }

    private static void queries(MarlStore x) {
        for (int i = 0; i < 6; i++) {
            x.addQuery();
        }
        int[][] parts = {{2, 0}, {2, 0}, {1, 0}, {2, 0}, {6, 2}};
        for (int[] part : parts) {
            x.addPart(0, part[0], part[1]);
        }
        x.addPart(1, 2, 0);
    }

    /** All that can be asked of it, the least changing first. */
    private static String told(MarlStore x) {
        StringBuilder all = new StringBuilder();
        all.append(x.digest()).append(' ').append(x.document()).append(' ').append(Build.path(x));
        for (int i = 0; i < 6; i++) {
            all.append(' ').append(i == 2 ? "" : Build.read(x, i));
        }
        tellSchemas(x, all);
        for (int i = 0; i < 6; i++) {
            all.append(' ').append(x.found(i, 2)).append(' ').append(x.mean(i, 0));
        }
        x.point(3);
        all.append(' ').append(x.paste()).append(Build.read(x, 3));
        tellPatches(x, all);
        return all.toString();
    }

    private static void tellSchemas(MarlStore x, StringBuilder all) {
        int count = x.check(2, 0);
        for (int i = 0; i < count; i++) {
            all.append(' ').append(x.pointFailure(2, 0, i)).append('@').append(Build.path(x));
        }
        for (int i = 1; i < 10; i++) {
            all.append(' ').append(x.check(2, i));
        }
        all.append(' ').append(x.setKinds(0, 31, 0, 0)).append(x.setChildren(0, 0, 50, -1, -1));
        all.append(x.setKey(0, 0, 0, false));
    }

    private static void tellPatches(MarlStore x, StringBuilder all) {
        for (int i = 0; i < x.patches(); i++) {
            all.append(' ').append(x.failsAt(i, 0)).append(' ').append(x.apply(i, 0));
        }
        all.append(Build.read(x, 0));
    }
}
