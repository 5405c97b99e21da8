import java.math.BigInteger;
import java.util.ArrayList;
import java.util.List;

/** The boundary cases that promise 45 names: a test for each. */
public final class DigestEdgesTest {
    private static final Due DUE = new Due("DigestEdgesTest");
    private static final long[] NOTHING = {1, 1, 0, -10000, 0};

    public static void main(String[] args) {
        startsAndWraps();
        aPathOfEveryLength();
        eachDocument();
        plainOnes();
        emptyOnes();
        theLargestDocument();
        theDeepestDocument();
        theClip();
        differences();
        noPatches();
        fullPatches();
        allSchemas();
        allQueries();
        changesNothing();
        DUE.end();
    }

    /** The numbers of a digest, put together bit by bit without a limit, and cut only in the end. */
    private static final class Sum {
        private BigInteger d = BigInteger.valueOf(58048);

        Sum put(long... numbers) {
            for (long x : numbers) {
                d = d.multiply(BigInteger.valueOf(31)).add(BigInteger.valueOf(x));
            }
            return this;
        }

        Sum nothings(int count) {
            for (int i = 0; i < count; i++) {
                put(NOTHING);
            }
            return this;
        }

        Sum zeros(int count) {
            return put(new long[count]);
        }

        void isOf(MarlStore x) {
            DUE.is("digest()", x.digest(), d.longValue());
        }
    }

    private static void startsAndWraps() {
        DUE.sentence("45", "A number d starts with 58048");
        MarlStore x = new MarlStore();
        Sum due = new Sum().put(0, 0).nothings(7).zeros(6);
        due.isOf(x);
        DUE.sentence("45", "which wraps around as a 64-bit integer");
        DUE.holds("the sum is beyond 64 bits", due.d.bitLength() > 64);
        DUE.is("digest()", x.digest(), due.d.mod(BigInteger.ONE.shiftLeft(64)).longValue());
    }

    private static void aPathOfEveryLength() {
        DUE.sentence("45", "document(), steps(), each stepAt()");
        MarlStore x = new MarlStore();
        Build.document(x, 5, "{99:{0:{98:{1:{97:{2:t}}}}}}");
        int[] path = {99, 0, 98, 1, 97, 2};
        for (int length = 0; length <= 6; length++) {
            Sum due = new Sum().put(5, length);
            for (int i = 0; i < length; i++) {
                due.put(path[i]);
            }
            due.nothings(5).put(7, 7);
            for (int step : path) {
                due.put(4, -10000, 1, step);
            }
            due.put(1, 1, 0).nothings(1).zeros(4).put(8, 0).isOf(x);
            if (length < 6) {
                x.into(path[length]);
            }
        }
    }

    private static void eachDocument() {
        DUE.sentence("45", "then for each DOCUMENT size(), depth()");
        for (int document = 0; document < 6; document++) {
            MarlStore x = new MarlStore();
            Build.document(x, document, "[n]");
            Sum due = new Sum().put(document, 0).nothings(document);
            due.put(2, 2, 3, -10000, 1, 0, 0, -10000, 0).nothings(6 - document);
            for (int i = 0; i < 5; i++) {
                due.put(i == document || i + 1 == document ? 3 : 0);
            }
            due.put(0).isOf(x);
        }
    }

    private static void plainOnes() {
        DUE.sentence("45", "its TRUTH or NUMBER (-10000 if it is none)");
        int[][] all = {{0, 0, -10000}, {1, 0, 0}, {1, 1, 1}, {2, 0, 0}, {2, -9999, -9999},
            {2, 9999, 9999}, {3, 7, -10000}, {4, 7, -10000}};
        for (int[] one : all) {
            MarlStore x = new MarlStore();
            x.set(one[0], one[1]);
            new Sum().put(0, 0).put(1, 1, one[0], one[2], 0).nothings(6)
                    .put(one[0] == 0 ? 0 : 2).zeros(5).isOf(x);
        }
    }

    private static void emptyOnes() {
        DUE.sentence("45", "how many CHILDREN it has, and their STEPS");
        MarlStore x = new MarlStore();
        Build.document(x, 0, "{99:[],0:{}}");
        new Sum().put(0, 0).put(3, 2, 4, -10000, 2, 0, 99, 4, -10000, 0, 3, -10000, 0).nothings(6)
                .put(4).zeros(5).isOf(x);
    }

    private static void theLargestDocument() {
        DUE.sentence("45", "and for each VALUE in it, in the order told in 5");
        MarlStore x = new MarlStore();
        Build.document(x, 0, Build.list(49, "n"));
        x.copy();
        Sum due = new Sum().put(0, 0);
        putLarge(due);
        due.nothings(5);
        putLarge(due);
        due.put(51).zeros(5).isOf(x);
    }

    private static void putLarge(Sum due) {
        due.put(50, 2, 3, -10000, 49);
        for (int i = 0; i < 49; i++) {
            due.put(i);
        }
        for (int i = 0; i < 49; i++) {
            due.put(0, -10000, 0);
        }
    }

    private static void theDeepestDocument() {
        DUE.sentence("T5", "in the order in which it is in the DOCUMENT");
        MarlStore x = new MarlStore();
        Build.document(x, 0, "[[[[[[1]]]]],[2]]");
        Sum due = new Sum().put(0, 0).put(9, 7, 3, -10000, 2, 0, 1);
        for (int i = 0; i < 5; i++) {
            due.put(3, -10000, 1, 0);
        }
        due.put(2, 1, 0, 3, -10000, 1, 0, 2, 2, 0).nothings(6).put(10).zeros(5).isOf(x);
    }

    private static void theClip() {
        DUE.sentence("45", "for the CLIP likewise (its SIZE and DEPTH first)");
        MarlStore x = new MarlStore();
        Build.document(x, 0, "[{7:t},-9999]");
        x.copy();
        x.set(0, 0);
        new Sum().put(0, 0).nothings(6)
                .put(4, 3, 3, -10000, 2, 0, 1, 4, -10000, 1, 7, 1, 1, 0, 2, -9999, 0)
                .zeros(6).isOf(x);
    }

    private static void differences() {
        DUE.sentence("45", "for each DOCUMENT but the last one difference() to the next one");
        MarlStore x = new MarlStore();
        Sum due = new Sum().put(0, 0);
        for (int i = 0; i < 6; i++) {
            x.point(i);
            x.set(2, i / 2);
            due.put(1, 1, 2, i / 2, 0);
        }
        x.point(0);
        due.nothings(1).put(0, 2, 0, 2, 0).put(0).isOf(x);
    }

    private static void noPatches() {
        DUE.sentence("45", "patches(), and PATCH by PATCH operations()");
        MarlStore x = new MarlStore();
        for (int i = 0; i < 8; i++) {
            x.addPatch();
            new Sum().put(0, 0).nothings(7).zeros(5).put(i + 1).zeros(i + 1).isOf(x);
        }
        for (int i = 0; i < 8; i++) {
            x.forget();
        }
        new Sum().put(0, 0).nothings(7).zeros(5).put(0).isOf(x);
    }

    private static void fullPatches() {
        DUE.sentence("45", "and then for each OPERATION of it ofOperation() of 0 to 3");
        MarlStore x = new MarlStore();
        Sum due = new Sum().put(0, 0).nothings(7).zeros(5).put(8);
        for (int patch = 0; patch < 8; patch++) {
            x.addPatch();
            due.put(20);
            for (int i = 0; i < 20; i++) {
                int code = (patch + i) % 4;
                x.addOperation(patch, code, 99);
                due.put(code, 0, code < 2 ? 99 : 0, code == 1 ? 0 : 1);
            }
        }
        due.isOf(x);
    }

    private static void allSchemas() {
        DUE.sentence("45", "for each SCHEMA fitting()");
        MarlStore x = new MarlStore();
        Sum due = new Sum().put(0, 0).nothings(7).zeros(6);
        for (int i = 0; i < 10; i++) {
            x.addSchema();
            x.setKinds(i, i % 3, 0, 0);
            due.put(i % 3 == 1 ? 63 : 0).isOf(x);
        }
    }

    private static void allQueries() {
        DUE.sentence("45", "for each QUERY found() in each DOCUMENT");
        MarlStore x = new MarlStore();
        Build.document(x, 0, "t");
        Build.document(x, 5, "[n,n]");
        x.point(0);
        List<Long> founds = new ArrayList<>();
        for (int i = 0; i < 6; i++) {
            x.addQuery();
            x.addPart(i, i % 2 + 1, 0);
            for (int j = 0; j < 6; j++) {
                founds.add(i % 2 == 0 ? j == 5 ? 2L : 0L : j == 5 ? 3L : 1L);
            }
            Sum due = new Sum().put(0, 0, 1, 1, 1, 1, 0).nothings(4);
            due.put(3, 2, 3, -10000, 2, 0, 1, 0, -10000, 0, 0, -10000, 0).nothings(1);
            due.put(2, 0, 0, 0, 4, 0);
            for (long found : founds) {
                due.put(found);
            }
            due.isOf(x);
        }
    }

    private static void changesNothing() {
        DUE.sentence("45", "Computes a checksum");
        MarlStore x = new MarlStore();
        Build.document(x, 2, "[[1,{3:t}],5]");
        Build.document(x, 3, "[[1,{3:f}],[5]]");
        x.diff(2, 3);
        x.addQuery();
        x.addSchema();
        Build.at(x, 3, 0, 1);
        long first = x.digest();
        DUE.is("digest() again", x.digest(), first);
        DUE.is("the path", Build.path(x), "0.1");
        DUE.call(x, 3, "document");
        DUE.reads(x, 2, "[[1,{3:t}],5]");
        DUE.reads(x, 3, "[[1,{3:f}],[5]]");
        DUE.call(x, 1, "apply", 0, 2);
        DUE.reads(x, 2, "[[1,{3:f}],[5]]");
        DUE.holds("another digest", x.digest() != first);
    }
}
