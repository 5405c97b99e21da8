import com.sun.management.ThreadMXBean;
import java.lang.management.ManagementFactory;

/**
 * The room that all calls of one run share: 600,000 objects and arrays with 7.3 million fields and
 * elements. What a run makes is measured in bytes, at 4 for a field or element and 16 for a head.
 */
public final class RoomTest {
    private static final long ROOM = 600_000L * 16 + 7_300_000L * 4;
    private static final int CALLS = 512;
    private static final Due DUE = new Due("RoomTest");
    private static final ThreadMXBean THREADS =
            (ThreadMXBean) ManagementFactory.getThreadMXBean();

    public static void main(String[] args) {
        String nothings = "[" + "n,".repeat(48) + "n]";
        String others = "[" + "t,".repeat(48) + "t]";
        String keys = "{0:[]";
        for (int i = 1; i < 48; i++) {
            keys = keys + "," + i + ":t";
        }
        keys = keys + "}";
        measure("digest", nothings, others, new String[] {"digest"}, new int[][] {{}});
        measure("difference", nothings, others, new String[] {"difference"}, new int[][] {{0, 1}});
        measure("changes", nothings, others, new String[] {"changes"}, new int[][] {{0, 1}});
        measure("diff", nothings, "[" + "t,".repeat(19) + "t]", new String[] {"changes", "forget"},
                new int[][] {{0, 1}, {}});
        measure("apply", keys, keys, new String[] {"failsAt"}, new int[][] {{0, 0}});
        measure("apply and forget", keys, keys, new String[] {"apply", "apply", "forget", "forget"},
                new int[][] {{0, 0}, {1, 0}, {}, {}});
        measure("paste and dropFound", keys, keys, new String[] {"paste", "dropFound"},
                new int[][] {{}, {0, 0}});
        measure("pointFailure", keys, others, new String[] {"pointFailure", "check", "fitting"},
                new int[][] {{1, 1, 0}, {1, 1}, {1}});
        measure("queries", keys, others, new String[] {"found", "having", "mean", "pointFound"},
                new int[][] {{0, 0}, {0, 0, 9}, {0, 0}, {0, 0, 3}});
        DUE.end();
    }

    /** Makes these calls in turn, more often than one object may have calls. */
    private static void measure(String what, String one, String other, String[] names,
            int[][] arguments) {
        MarlStore x = new MarlStore();
        prepare(x, one, other);
        for (int round = 0; round < 2; round++) {
            long before = THREADS.getThreadAllocatedBytes(Thread.currentThread().getId());
            for (int i = 0; i < CALLS; i++) {
                make(x, names[i % names.length], arguments[i % names.length]);
            }
            long used = THREADS.getThreadAllocatedBytes(Thread.currentThread().getId()) - before;
            DUE.holds(what + " takes " + used + " of " + ROOM + " bytes", used < ROOM);
        }
    }

    /** A PATCH of 20 OPERATIONS is the number 0, and the DOCUMENT 0 is where it can be applied. */
    private static void prepare(MarlStore x, String one, String other) {
        Build.document(x, 1, other);
        Build.document(x, 0, one);
        x.addPatch();
        x.into(0);
        x.copy();
        for (int i = 0; i < 10; i++) {
            x.addOperation(0, 0, 0);
            x.addOperation(0, 1, 0);
        }
        x.point(0);
        x.copy();
        x.addSchema();
        x.addSchema();
        x.setChildren(0, 0, 0, 1, -1);
        x.setChildren(1, 0, 0, 0, 0);
        x.setKinds(1, 24, 0, 0);
        x.addQuery();
        x.addPart(0, 2, 0);
    }

    private static void make(MarlStore x, String name, int[] a) {
        switch (name) {
            case "digest" -> x.digest();
            case "difference" -> x.difference(a[0], a[1]);
            case "changes" -> x.changes(a[0], a[1]);
            case "forget" -> {
                if (x.patches() > 1) {
                    x.forget();
                }
            }
            case "failsAt" -> DUE.is("failsAt", x.failsAt(a[0], a[1]), -1);
            case "apply" -> DUE.holds("apply", x.apply(a[0], a[1]) > 0);
            case "paste" -> DUE.is("paste", x.paste(), 49);
            case "dropFound" -> DUE.is("dropFound", x.dropFound(a[0], a[1]), 1);
            case "pointFailure" -> x.pointFailure(a[0], a[1], a[2]);
            case "check" -> x.check(a[0], a[1]);
            case "fitting" -> x.fitting(a[0]);
            case "found" -> x.found(a[0], a[1]);
            case "having" -> x.having(a[0], a[1], a[2]);
            case "mean" -> x.mean(a[0], a[1]);
            default -> x.pointFound(a[0], a[1], a[2]);
        }
    }
}
