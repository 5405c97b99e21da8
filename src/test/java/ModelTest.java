import java.util.ArrayList;
import java.util.Arrays;
import java.util.List;
import java.util.Random;
import java.util.TreeMap;

/** Long runs of calls, drawn with fixed seeds, on MarlStore and on the model at once. */
public final class ModelTest {
    private static final int RUNS = 2800;
    private static final int CALLS = 512;

    /** A line for each kind of run: names, each followed by its weight. */
    private static final String[] PROFILES = {
        "point 3 into 10 up 3 set 12 copy 5 paste 3 insert 22 drop 2 difference 3 changes 3 diff 2"
            + " apply 3 failsAt 2 forget 1 digest 1 size 1 depth 1 clip 1 kind 1 number 1"
            + " children 1 childStep 1 document 1 steps 1 stepAt 1",
        "point 3 into 8 up 3 set 10 copy 6 paste 3 insert 14 drop 1 addPatch 2 addOperation 25"
            + " apply 12 failsAt 8 diff 2 forget 2 ofOperation 6 operations 2 patches 1 digest 1",
        "point 3 into 10 up 3 set 14 copy 5 paste 2 insert 20 drop 2 addSchema 2 setKinds 4"
            + " setChildren 6 setKey 6 check 10 pointFailure 8 fitting 3 stepAt 1 digest 1",
        "point 3 into 10 up 3 set 14 copy 5 paste 2 insert 22 drop 2 addQuery 2 addPart 4 found 10"
            + " pointFound 8 having 4 mean 6 dropFound 1 stepAt 1 digest 1",
        "point 4 into 10 up 3 set 12 copy 5 paste 3 insert 18 drop 2 addPatch 1 addOperation 6"
            + " apply 5 failsAt 3 diff 3 forget 1 ofOperation 2 difference 3 changes 3 addSchema 1"
            + " setKinds 1 setChildren 2 setKey 2 check 2 pointFailure 2 fitting 1 addQuery 1"
            + " addPart 2 found 2 pointFound 2 having 2 mean 2 dropFound 1 digest 2",
    };

    /** What most runs begin with, so that the DOCUMENTS become large and alike. */
    private static final String GROWTH =
        "point 2 into 10 up 4 set 12 copy 7 paste 2 insert 30 drop 1 size 1 depth 1";

    private final Random random;
    private final Model model = new Model();
    private final MarlStore store = new MarlStore();
    private final List<String> log = new ArrayList<>();
    private final int wrongInHundred;
    private final int kinds;
    private final int growing;

    private ModelTest(int seed) {
        random = new Random(seed);
        wrongInHundred = seed % 3 == 0 ? 10 : 2;
        kinds = seed % 4;
        growing = seed % 7 * 40;
    }

    public static void main(String[] args) {
        TreeMap<String, Integer> seen = new TreeMap<>();
        for (int seed = 0; seed < RUNS; seed++) {
            String fault = new ModelTest(seed).run(PROFILES[seed % PROFILES.length], seen);
            if (fault != null) {
                System.out.println("seed " + seed + ": " + fault);
                System.exit(1);
            }
        }
        for (String name : Calls.NAMES) {
            if (!seen.containsKey(name)) {
                System.out.println("no run ever calls " + name);
                System.exit(1);
            }
        }
        if (args.length > 0) {
            System.out.println(seen);
        }
        System.out.println(RUNS + " runs answer as the model does");
    }

    private String run(String profile, TreeMap<String, Integer> seen) {
        String[] words = profile.split(" ");
        for (int made = 0; made < CALLS; ) {
            String name = turned(draw(made < growing ? GROWTH.split(" ") : words));
            int[] a = arguments(name);
            String due = Calls.of(model, name, a);
            boolean isThrown = due.startsWith("throws.");
            boolean isWatched = isThrown && made + 3 <= CALLS;
            long before = isWatched ? store.digest() : 0;
            String got = Calls.of(store, name, a);
            made += isWatched ? 3 : 1;
            log.add(name + Arrays.toString(a) + " -> " + got);
            seen.merge(name, 1, Integer::sum);
            if (isThrown) {
                seen.merge(name + " " + due, 1, Integer::sum);
            } else if (due.equals("-1") || due.equals("-2")) {
                seen.merge(name + " " + due, 1, Integer::sum);
            } else if (name.equals("changes") && Integer.parseInt(due) > 20) {
                seen.merge("changes beyond 20", 1, Integer::sum);
            } else if (name.equals("failsAt") && model.operations(a[0]) == Integer.parseInt(due)) {
                seen.merge("failsAt the end", 1, Integer::sum);
            } else if (name.equals("size") && Integer.parseInt(due) > 40) {
                seen.merge("size beyond 40", 1, Integer::sum);
            } else if (name.equals("depth")) {
                seen.merge("depth " + due, 1, Integer::sum);
            }
            if (!got.equals(due)) {
                return tell("due is " + due);
            }
            if (isWatched && store.digest() != before) {
                return tell("the call that throws changed something");
            }
        }
        return null;
    }

    private String tell(String what) {
        return String.join("\n", log) + "\n" + what;
    }

    /** Most inserts and sets where they would do nothing of use become calls that let things grow. */
    private String turned(String name) {
        int kind = model.there().kind;
        if (name.equals("insert") && kind < 3 && !isWrong()) {
            return random.nextInt(4) == 0 ? "up" : "set";
        }
        boolean isLarge = model.there().sizeOfIt() > 3;
        if (name.equals("set") && isLarge && random.nextInt(10) > 0) {
            return "into";
        }
        if (name.equals("paste") && isLarge && random.nextInt(3) > 0) {
            return "copy";
        }
        return name.equals("copy") && !isLarge && random.nextInt(3) == 0 ? "up" : name;
    }

    private String draw(String[] words) {
        int sum = 0;
        for (int i = 1; i < words.length; i += 2) {
            sum += Integer.parseInt(words[i]);
        }
        int left = random.nextInt(sum);
        for (int i = 0; i < words.length; i += 2) {
            left -= Integer.parseInt(words[i + 1]);
            if (left < 0) {
                return words[i];
            }
        }
        return words[0];
    }

    private int[] arguments(String name) {
        switch (name) {
            case "point": case "size": case "depth":
                return new int[] {document()};
            case "into": case "drop":
                return new int[] {childStep()};
            case "stepAt":
                return new int[] {below(model.path.size())};
            case "set":
                return value();
            case "insert":
                return new int[] {model.there().kind == 3 ? below(model.there().list.size() + 1)
                    : step()};
            case "childStep":
                return new int[] {below(model.there().children().size())};
            case "addOperation":
                return new int[] {patch(), code(), random.nextInt(3) == 0 ? childStep() : step()};
            case "apply": case "failsAt":
                return new int[] {patch(), document()};
            case "diff": case "difference": case "changes":
                return new int[] {document(), document()};
            case "operations":
                return new int[] {patch()};
            case "ofOperation":
                int patch = patch();
                boolean isThere = patch >= 0 && patch < model.patches.size();
                int count = isThere ? model.patches.get(patch).size() : 3;
                return new int[] {patch, below(count), below(4)};
            default:
                return ofSchemasAndQueries(name);
        }
    }

    private int[] ofSchemasAndQueries(String name) {
        switch (name) {
            case "setKinds":
                int low = number();
                return new int[] {schema(), random.nextInt(3) == 0 ? below(32) : 31, low,
                    random.nextInt(10) == 0 ? number() : low + random.nextInt(4)};
            case "setChildren":
                int least = random.nextInt(3);
                return new int[] {schema(), isWrong() ? wrong() : least,
                    isWrong() ? least - 1 : least + random.nextInt(4),
                    random.nextInt(4) == 0 ? -1 : schema(),
                    random.nextInt(3) == 0 ? -1 - random.nextInt(2) : schema()};
            case "setKey":
                return new int[] {schema(), step(), schema(), random.nextInt(2)};
            case "check":
                return new int[] {document(), schema()};
            case "pointFailure":
                return failure();
            case "fitting":
                return new int[] {schema()};
            case "addPart":
                return part();
            case "found": case "mean": case "dropFound":
                return new int[] {query(), document()};
            case "pointFound":
                return foundOne();
            case "having":
                int first = number();
                return new int[] {query(), first, first + random.nextInt(6) - (isWrong() ? 6 : 0)};
            default:
                return new int[0];
        }
    }

    private int[] failure() {
        int document = document();
        int schema = schema();
        boolean isThere = document >= 0 && document < 6 && schema >= 0
                && schema < model.schemas.size();
        return new int[] {document, schema, below(isThere ? model.check(document, schema) : 2)};
    }

    private int[] foundOne() {
        int document = document();
        int query = query();
        boolean isThere = document >= 0 && document < 6 && query >= 0
                && query < model.queries.size();
        return new int[] {query, document, below(isThere ? model.found(query, document) : 2)};
    }

    private int[] part() {
        int part = isWrong() ? wrong() : random.nextInt(7);
        int n = part == 4 ? number() : part == 6 ? below(5) : step();
        return new int[] {query(), part, n};
    }

    private int[] value() {
        int kind = isWrong() ? wrong() : random.nextInt(5);
        if (kinds > 0 && random.nextInt(2) == 0) {
            kind = kinds == 1 ? 3 : kinds == 2 ? 4 : 3 + random.nextInt(2);
        }
        return new int[] {kind, kind == 1 && !isWrong() ? random.nextInt(2) : number()};
    }

    private int childStep() {
        List<Integer> steps = new ArrayList<>(model.there().children().keySet());
        return steps.isEmpty() || isWrong() ? step() : steps.get(random.nextInt(steps.size()));
    }

    private boolean isWrong() {
        return random.nextInt(100) < wrongInHundred;
    }

    private int wrong() {
        int[] all = {-1, -2, 5, 6, 7, 100, -10000, 10000, 50, 51, 32, Integer.MAX_VALUE,
            Integer.MIN_VALUE, 8, 20};
        return all[random.nextInt(all.length)];
    }

    private int below(int count) {
        if (isWrong() || count == 0) {
            return random.nextBoolean() ? count : wrong();
        }
        return random.nextInt(count);
    }

    private int document() {
        return below(6);
    }

    private int patch() {
        return below(model.patches.size());
    }

    private int schema() {
        return below(model.schemas.size());
    }

    private int query() {
        return below(model.queries.size());
    }

    private int code() {
        return isWrong() ? wrong() : random.nextInt(4);
    }

    private int step() {
        return isWrong() ? wrong() : random.nextInt(8) == 0 ? random.nextInt(100) : random.nextInt(4);
    }

    private int number() {
        if (isWrong()) {
            return random.nextBoolean() ? 9999 * (1 - 2 * random.nextInt(2)) : wrong();
        }
        return random.nextInt(5) - 2;
    }
}
