import java.util.Arrays;

/** A store of documents that are built of values in one another. */
public final class MarlStore {

    private static final int DOCUMENTS = 6;
    private static final int MOST_SIZE = 50;
    private static final int MOST_DEPTH = 7;
    private static final int MOST_STEPS = 6;
    private static final int MOST_KEY = 99;
    private static final int MOST_NUMBER = 9999;
    private static final int NO_NUMBER = -10000;

    private static final int NOTHING = 0;
    private static final int TRUTH = 1;
    private static final int NUMBER = 2;
    private static final int LIST = 3;
    private static final int OBJECT = 4;

    private static final int MOST_PATCHES = 8;
    private static final int MOST_OPERATIONS = 20;
    private static final int ADD = 0;
    private static final int DROP = 1;
    private static final int SET = 2;
    private static final int TEST = 3;
    private static final int CAN_BE_APPLIED = -1;

    private static final int MOST_SCHEMAS = 10;
    private static final int MOST_OWN_KEYS = 4;
    private static final int ALL_KINDS = 31;
    private static final int ANYTHING = -1;
    private static final int FORBIDDEN = -2;

    private static final int MOST_QUERIES = 6;
    private static final int MOST_PARTS = 5;
    private static final int STEP = 0;
    private static final int ANY = 1;
    private static final int DEEP = 2;
    private static final int LAST = 3;
    private static final int LESS = 4;
    private static final int WITH = 5;
    private static final int KIND = 6;

    // PATCHES may hold VALUES of a DEPTH up to 14: a PATH has at most 6 STEPS, an ADD puts a
    // CLIP of DEPTH 7 beneath its end, and an INVERSE puts all back where it was.
    private static final int MOST_LEVELS = 40;

    // The LISTS that are open at once while DOCUMENTS are compared lie in one another, so they
    // have at most 49 CHILDREN together on each side: 49 * 49 + 49 + 49 + 7 cells at most.
    private static final int TABLE_CELLS = 2600;

    private static final long DIGEST_START = 58048L;

    private final Value[] wholes;
    private Value clipped;
    private final Pointer pointer;
    private final Editor editor;
    private final Patch[] allPatches;
    private int patchCount;
    private final Value[] takenOut;
    private final Differ differ;
    private final Schema[] schemas;
    private int schemaCount;
    private final Checker checker;
    private final Query[] queries;
    private int queryCount;
    private final Walk walk;

    public MarlStore() {
        Value nothing = new Value(NOTHING, NO_NUMBER, null, null);
        wholes = new Value[DOCUMENTS];
        for (int i = 0; i < DOCUMENTS; i++) {
            wholes[i] = nothing;
        }
        clipped = nothing;
        pointer = new Pointer();
        editor = new Editor(nothing);
        allPatches = new Patch[MOST_PATCHES];
        for (int i = 0; i < MOST_PATCHES; i++) {
            allPatches[i] = new Patch();
        }
        takenOut = new Value[MOST_OPERATIONS];
        differ = new Differ();
        schemas = new Schema[MOST_SCHEMAS];
        for (int i = 0; i < MOST_SCHEMAS; i++) {
            schemas[i] = new Schema();
        }
        walk = new Walk();
        checker = new Checker(walk, schemas);
        queries = new Query[MOST_QUERIES];
        for (int i = 0; i < MOST_QUERIES; i++) {
            queries[i] = new Query();
        }
    }

    // ---- the pointer

    public int point(int document) throws IndexOutOfBoundsException {
        Value whole = wholeOf(document);
        pointer.goToWhole(document);
        return whole.kind;
    }

    public int into(int step) throws IndexOutOfBoundsException {
        Value there = pointed();
        Value part = there.partAt(there.placeOf(step));
        if (part == null || !pointer.goDown(step)) {
            throw new IndexOutOfBoundsException("there is no such child");
        }
        return part.kind;
    }

    public int up() throws IllegalStateException {
        if (!pointer.goUp()) {
            throw new IllegalStateException("the path has no steps");
        }
        return pointer.length;
    }

    public int document() {
        return pointer.at;
    }

    public int steps() {
        return pointer.length;
    }

    public int stepAt(int number) throws IndexOutOfBoundsException {
        if (number < 0 || number >= pointer.length || number >= pointer.path.length) {
            throw new IndexOutOfBoundsException("the path has no such step");
        }
        return pointer.path[number];
    }

    // ---- values at the pointer

    public int set(int kind, int number) throws IllegalArgumentException {
        boolean isWrong = kind < NOTHING || kind > OBJECT
                || kind == TRUTH && (number < 0 || number > 1)
                || kind == NUMBER && (number < -MOST_NUMBER || number > MOST_NUMBER);
        if (isWrong) {
            throw new IllegalArgumentException("there is no such value");
        }
        int before = pointed().size;
        boolean isCounted = kind == TRUTH || kind == NUMBER;
        Value fresh = new Value(kind, isCounted ? number : NO_NUMBER, null, null);
        editor.begin(wholeOf(pointer.at));
        finish(editor.putAt(pointer.path, pointer.length, fresh));
        return before;
    }

    public int copy() {
        clipped = pointed();
        return clipped.size;
    }

    public int paste() {
        editor.begin(wholeOf(pointer.at));
        return finish(editor.putAt(pointer.path, pointer.length, clipped));
    }

    public int insert(int step) {
        editor.begin(wholeOf(pointer.at));
        return finish(editor.addAt(pointer.path, pointer.length, step, clipped));
    }

    public int drop(int step) {
        editor.begin(wholeOf(pointer.at));
        return finish(editor.dropAt(pointer.path, pointer.length, step));
    }

    public int kind() {
        return pointed().kind;
    }

    public int number() {
        return pointed().number;
    }

    public int children() {
        return pointed().width();
    }

    public int childStep(int place) throws IndexOutOfBoundsException {
        Value there = pointed();
        if (place < 0 || place >= there.width()) {
            throw new IndexOutOfBoundsException("there is no such place");
        }
        return there.stepOf(place);
    }

    public int size(int document) throws IndexOutOfBoundsException {
        return wholeOf(document).size;
    }

    public int depth(int document) throws IndexOutOfBoundsException {
        return wholeOf(document).depth;
    }

    public int clip() {
        return clipped.size;
    }

    // ---- patches

    public int addPatch() throws IllegalStateException {
        return beginPatch();
    }

    public int addOperation(int patch, int code, int step)
            throws IndexOutOfBoundsException, IllegalArgumentException, IllegalStateException {
        Patch changed = patchOf(patch);
        boolean isWithStep = code == ADD || code == DROP;
        if (code < ADD || code > TEST || isWithStep && (step < 0 || step > MOST_KEY)) {
            throw new IllegalArgumentException("there is no such code or step");
        }
        if (changed.count >= MOST_OPERATIONS) {
            throw new IllegalStateException("the patch is full");
        }
        changed.append(new Operation(code, pointer.pathNow(), isWithStep ? step : 0,
                code == DROP ? null : clipped));
        return changed.count;
    }

    public int apply(int patch, int document) throws IndexOutOfBoundsException {
        Patch applied = patchOf(patch);
        if (tryOut(applied, wholeOf(document)) != CAN_BE_APPLIED) {
            return -1;
        }
        changeTo(document, editor.whole);
        if (patchCount >= MOST_PATCHES) {
            return -2;
        }
        int made = beginPatch();
        writeInverse(applied, patchOf(made));
        return made;
    }

    public int failsAt(int patch, int document) throws IndexOutOfBoundsException {
        Patch tried = patchOf(patch);
        return tryOut(tried, wholeOf(document));
    }

    public int diff(int one, int other) throws IndexOutOfBoundsException, IllegalStateException {
        int count = differ.write(wholeOf(one), wholeOf(other));
        if (count > MOST_OPERATIONS) {
            throw new IllegalStateException("the patch would have too many operations");
        }
        int made = beginPatch();
        for (int i = 0; i < count; i++) {
            patchOf(made).append(differ.operationAt(i));
        }
        return made;
    }

    public int forget() throws IllegalStateException {
        if (patchCount == 0) {
            throw new IllegalStateException("there is no patch");
        }
        patchCount--;
        return patchCount;
    }

    public int patches() {
        return patchCount;
    }

    public int operations(int patch) throws IndexOutOfBoundsException {
        return patchOf(patch).count;
    }

    public int ofOperation(int patch, int operation, int what)
            throws IndexOutOfBoundsException, IllegalArgumentException {
        Operation asked = patchOf(patch).operationAt(operation);
        if (asked == null) {
            throw new IndexOutOfBoundsException("there is no such operation");
        }
        if (what < 0 || what > 3) {
            throw new IllegalArgumentException("only 0 to 3 can be asked");
        }
        return asked.tell(what);
    }

    // ---- differences

    public int difference(int one, int other) throws IndexOutOfBoundsException {
        return differ.compare(wholeOf(one), wholeOf(other));
    }

    public int changes(int one, int other) throws IndexOutOfBoundsException {
        return differ.write(wholeOf(one), wholeOf(other));
    }

    // ---- schemas

    public int addSchema() throws IllegalStateException {
        if (schemaCount >= MOST_SCHEMAS) {
            throw new IllegalStateException("there is no room for a schema");
        }
        schemaCount++;
        return schemaCount - 1;
    }

    public int setKinds(int schema, int kinds, int low, int high)
            throws IndexOutOfBoundsException, IllegalArgumentException {
        Schema changed = schemaOf(schema);
        if (kinds < 0 || kinds > ALL_KINDS || low < -MOST_NUMBER || low > MOST_NUMBER
                || high < low || high > MOST_NUMBER) {
            throw new IllegalArgumentException("the kinds or the range are wrong");
        }
        int before = changed.kinds;
        changed.kinds = kinds;
        changed.low = low;
        changed.high = high;
        return before;
    }

    public int setChildren(int schema, int least, int most, int item, int rest)
            throws IndexOutOfBoundsException, IllegalArgumentException {
        Schema changed = schemaOf(schema);
        if (item != ANYTHING) {
            schemaOf(item);
        }
        if (rest != ANYTHING && rest != FORBIDDEN) {
            schemaOf(rest);
        }
        if (least < 0 || least > MOST_SIZE || most < least || most > MOST_SIZE) {
            throw new IllegalArgumentException("the numbers of children are wrong");
        }
        int before = changed.item;
        changed.least = least;
        changed.most = most;
        changed.item = item;
        changed.rest = rest;
        return before;
    }

    public int setKey(int schema, int key, int own, boolean isNeeded)
            throws IndexOutOfBoundsException, IllegalArgumentException, IllegalStateException {
        Schema changed = schemaOf(schema);
        schemaOf(own);
        if (key < 0 || key > MOST_KEY) {
            throw new IllegalArgumentException("there is no such key");
        }
        if (!changed.putKey(key, own, isNeeded)) {
            throw new IllegalStateException("4 other keys have an own schema");
        }
        return changed.keyCount;
    }

    public int check(int document, int schema) throws IndexOutOfBoundsException {
        return countFailures(document, schema, -1);
    }

    public int pointFailure(int document, int schema, int failure)
            throws IndexOutOfBoundsException {
        int count = countFailures(document, schema, failure);
        if (failure < 0 || failure >= count) {
            throw new IndexOutOfBoundsException("there is no such failure");
        }
        pointer.goToPlace(document, walk, checker.wantedPlace);
        return checker.wantedCode;
    }

    public int fitting(int schema) throws IndexOutOfBoundsException {
        int fitted = 0;
        for (int i = 0; i < DOCUMENTS; i++) {
            if (countFailures(i, schema, -1) == 0) {
                fitted |= 1 << i;
            }
        }
        return fitted;
    }

    // ---- queries

    public int addQuery() throws IllegalStateException {
        if (queryCount >= MOST_QUERIES) {
            throw new IllegalStateException("there is no room for a query");
        }
        queryCount++;
        return queryCount - 1;
    }

    public int addPart(int query, int part, int n)
            throws IndexOutOfBoundsException, IllegalArgumentException, IllegalStateException {
        Query changed = queryOf(query);
        if (!isPart(part, n)) {
            throw new IllegalArgumentException("there is no such part");
        }
        if (!changed.append(part, n)) {
            throw new IllegalStateException("the query is full");
        }
        return changed.count;
    }

    public int found(int query, int document) throws IndexOutOfBoundsException {
        return Long.bitCount(findIn(query, document));
    }

    public int pointFound(int query, int document, int number) throws IndexOutOfBoundsException {
        int place = placeInSet(findIn(query, document), number);
        Value value = walk.valueAt(place);
        if (value == null) {
            throw new IndexOutOfBoundsException("the query does not find so many");
        }
        pointer.goToPlace(document, walk, place);
        return value.kind;
    }

    public int having(int query, int low, int high)
            throws IndexOutOfBoundsException, IllegalArgumentException {
        queryOf(query);
        if (high < low) {
            throw new IllegalArgumentException("high is less than low");
        }
        int holders = 0;
        for (int i = 0; i < DOCUMENTS; i++) {
            if (walk.hasNumber(findIn(query, i), low, high)) {
                holders |= 1 << i;
            }
        }
        return holders;
    }

    public double mean(int query, int document) throws IndexOutOfBoundsException {
        long numbers = walk.numbersAmong(findIn(query, document));
        int count = Long.bitCount(numbers);
        if (count == 0) {
            return 0;
        }
        return (double) walk.sumOf(numbers) / count;
    }

    public int dropFound(int query, int document) throws IndexOutOfBoundsException {
        changeTo(document, walk.without(findIn(query, document)));
        return wholeOf(document).size;
    }

    public long digest() {
        long d = DIGEST_START;
        d = d * 31 + pointer.at;
        d = d * 31 + pointer.length;
        for (int i = 0; i < pointer.length; i++) {
            d = d * 31 + stepAt(i);
        }
        for (int i = 0; i < DOCUMENTS; i++) {
            d = digestValue(d, wholeOf(i));
        }
        d = digestValue(d, clipped);
        for (int i = 0; i + 1 < DOCUMENTS; i++) {
            d = d * 31 + difference(i, i + 1);
        }
        d = digestPatches(d);
        for (int i = 0; i < schemaCount; i++) {
            d = d * 31 + fitting(i);
        }
        for (int i = 0; i < queryCount; i++) {
            for (int j = 0; j < DOCUMENTS; j++) {
                d = d * 31 + found(i, j);
            }
        }
        return d;
    }

    // ---- what the calls share

    private Value wholeOf(int document) {
        if (document < 0 || document >= wholes.length) {
            throw new IndexOutOfBoundsException("there is no such document");
        }
        return wholes[document];
    }

    private Patch patchOf(int patch) {
        if (patch < 0 || patch >= patchCount || patch >= allPatches.length) {
            throw new IndexOutOfBoundsException("there is no such patch");
        }
        return allPatches[patch];
    }

    private Schema schemaOf(int schema) {
        if (schema < 0 || schema >= schemaCount || schema >= schemas.length) {
            throw new IndexOutOfBoundsException("there is no such schema");
        }
        return schemas[schema];
    }

    private Query queryOf(int query) {
        if (query < 0 || query >= queryCount || query >= queries.length) {
            throw new IndexOutOfBoundsException("there is no such query");
        }
        return queries[query];
    }

    private int beginPatch() {
        if (patchCount >= MOST_PATCHES) {
            throw new IllegalStateException("there is no room for a patch");
        }
        patchCount++;
        patchOf(patchCount - 1).clear();
        return patchCount - 1;
    }

    private Value pointed() {
        Value whole = wholeOf(pointer.at);
        Value there = whole.below(pointer.path, pointer.length);
        return there == null ? whole : there;
    }

    /** Every change of a DOCUMENT comes through here, so that the PATH of the POINTER stays RIGHT. */
    private void changeTo(int document, Value whole) {
        if (document >= 0 && document < wholes.length) {
            wholes[document] = whole;
        }
        if (pointer.at == document) {
            pointer.settle(whole);
        }
    }

    /** Ends a change at the POINTER: its SIZE then, or -1 if it was not done or is not allowed. */
    private int finish(boolean isDone) {
        if (!isDone || !editor.isAllowed()) {
            return -1;
        }
        changeTo(pointer.at, editor.whole);
        return editor.whole.size;
    }

    /** Does a PATCH in the editor alone; answers as failsAt does. */
    private int tryOut(Patch patch, Value whole) {
        editor.begin(whole);
        for (int i = 0; i < patch.count && i < takenOut.length; i++) {
            Operation operation = patch.operationAt(i);
            if (operation == null || !editor.perform(operation)) {
                return i;
            }
            takenOut[i] = editor.taken;
        }
        return editor.isAllowed() ? CAN_BE_APPLIED : patch.count;
    }

    /** Writes the INVERSE of a PATCH that has just been tried out into an empty one. */
    private void writeInverse(Patch patch, Patch inverse) {
        for (int i = patch.count - 1; i >= 0; i--) {
            Operation operation = patch.operationAt(i);
            if (operation != null && i < takenOut.length) {
                inverse.append(operation.inverse(takenOut[i]));
            }
        }
    }

    /** Fills the walk with the DOCUMENT too. */
    private int countFailures(int document, int schema, int wanted) {
        walk.fill(wholeOf(document));
        schemaOf(schema);
        return checker.countFailures(schema, wanted);
    }

    private static boolean isPart(int part, int n) {
        switch (part) {
            case STEP:
            case WITH:
                return n >= 0 && n <= MOST_KEY;
            case LESS:
                return n >= -MOST_NUMBER && n <= MOST_NUMBER;
            case KIND:
                return n >= NOTHING && n <= OBJECT;
            default:
                return part >= STEP && part <= KIND;
        }
    }

    /** What a QUERY finds, as a set of places of the walk, which is filled with the DOCUMENT. */
    private long findIn(int query, int document) {
        Query asked = queryOf(query);
        walk.fill(wholeOf(document));
        return asked.findIn(walk);
    }

    private static boolean isIn(long places, int place) {
        return (places >> place & 1L) != 0;
    }

    /** The place with this number in the set, -1 if there are not so many. */
    private static int placeInSet(long places, int number) {
        int left = number;
        for (int place = 0; place < MOST_SIZE && left >= 0; place++) {
            if (isIn(places, place)) {
                if (left == 0) {
                    return place;
                }
                left--;
            }
        }
        return -1;
    }

    private long digestValue(long start, Value whole) {
        long d = start * 31 + whole.size;
        d = d * 31 + whole.depth;
        walk.fill(whole);
        for (int i = 0; i < walk.count; i++) {
            Value value = walk.valueAt(i);
            if (value != null) {
                d = d * 31 + value.kind;
                d = d * 31 + value.number;
                d = d * 31 + value.width();
                for (int j = 0; j < value.width(); j++) {
                    d = d * 31 + value.stepOf(j);
                }
            }
        }
        return d;
    }

    private long digestPatches(long start) {
        long d = start * 31 + patchCount;
        for (int i = 0; i < patchCount; i++) {
            int count = operations(i);
            d = d * 31 + count;
            for (int j = 0; j < count; j++) {
                for (int what = 0; what <= 3; what++) {
                    d = d * 31 + ofOperation(i, j, what);
                }
            }
        }
        return d;
    }

    /** A VALUE. It never changes, so that DOCUMENTS, the CLIP and PATCHES can share it. */
    private static final class Value {
        final int kind;
        final int number;
        /** The KEYS of an OBJECT, rising; null without any, and for the other KINDS. */
        final int[] keys;
        /** The CHILDREN, as many as KEYS in an OBJECT; null without any. */
        final Value[] parts;
        final int size;
        final int depth;

        Value(int kind, int number, int[] keys, Value[] parts) {
            this.kind = kind;
            this.number = number;
            this.keys = keys;
            this.parts = parts;
            int sum = 1;
            int deepest = 0;
            if (parts != null) {
                for (Value part : parts) {
                    if (part != null) {
                        sum += part.size;
                        deepest = Math.max(deepest, part.depth);
                    }
                }
            }
            size = sum;
            depth = deepest + 1;
        }

        int width() {
            return parts == null ? 0 : parts.length;
        }

        /** The CHILD at a place, null if there is none. */
        Value partAt(int place) {
            if (parts == null || place < 0 || place >= parts.length) {
                return null;
            }
            return parts[place];
        }

        int stepOf(int place) {
            if (keys == null || place < 0 || place >= keys.length) {
                return place;
            }
            return keys[place];
        }

        /** The place of the CHILD with a STEP, -1 if there is none. */
        int placeOf(int step) {
            if (kind != OBJECT) {
                return parts != null && step >= 0 && step < parts.length ? step : -1;
            }
            for (int i = 0; keys != null && i < keys.length; i++) {
                if (keys[i] == step) {
                    return i;
                }
            }
            return -1;
        }

        /** The place at which a new CHILD with a STEP comes, -1 if it can't be added. */
        int placeToAdd(int step) {
            if (kind == LIST) {
                return step >= 0 && step <= width() ? step : -1;
            }
            if (kind != OBJECT || step < 0 || step > MOST_KEY || placeOf(step) >= 0) {
                return -1;
            }
            int place = 0;
            while (keys != null && place < keys.length && keys[place] < step) {
                place++;
            }
            return place;
        }

        /** What a PATH leads to, null if it is not RIGHT. */
        Value below(int[] path, int length) {
            Value there = this;
            for (int i = 0; i < length && i < path.length && there != null; i++) {
                there = there.partAt(there.placeOf(path[i]));
            }
            return there;
        }

        Value withPart(int place, Value part) {
            int width = width();
            Value[] fresh = new Value[width];
            for (int i = 0; i < width; i++) {
                fresh[i] = i == place ? part : partAt(i);
            }
            return new Value(kind, number, keys, fresh);
        }

        Value withAdded(int place, int step, Value part) {
            int width = width();
            Value[] fresh = new Value[width + 1];
            int[] freshKeys = kind == OBJECT ? new int[width + 1] : null;
            for (int i = 0; i <= width; i++) {
                int from = i < place ? i : i - 1;
                fresh[i] = i == place ? part : partAt(from);
                if (freshKeys != null) {
                    freshKeys[i] = i == place ? step : stepOf(from);
                }
            }
            return new Value(kind, number, freshKeys, fresh);
        }

        Value withoutPart(int place) {
            int left = width() - 1;
            if (left <= 0) {
                return new Value(kind, number, null, null);
            }
            Value[] fresh = new Value[left];
            int[] freshKeys = kind == OBJECT ? new int[left] : null;
            for (int i = 0; i < left; i++) {
                int from = i < place ? i : i + 1;
                fresh[i] = partAt(from);
                if (freshKeys != null) {
                    freshKeys[i] = stepOf(from);
                }
            }
            return new Value(kind, number, freshKeys, fresh);
        }

        boolean isSameAs(Value other) {
            return areSame(this, other, 0);
        }

        /** Level tells how far it is beneath the first two. */
        private static boolean areSame(Value a, Value b, int level) {
            if (a == b) {
                return true;
            }
            if (a == null || b == null || level > MOST_LEVELS || a.kind != b.kind
                    || a.number != b.number || a.size != b.size || a.width() != b.width()) {
                return false;
            }
            for (int i = 0; i < a.width(); i++) {
                if (a.stepOf(i) != b.stepOf(i)
                        || !areSame(a.partAt(i), b.partAt(i), level + 1)) {
                    return false;
                }
            }
            return true;
        }
    }

    /** Where the POINTER is. */
    private static final class Pointer {
        int at;
        int length;
        final int[] path = new int[MOST_STEPS];

        int[] pathNow() {
            return Arrays.copyOf(path, Math.max(0, Math.min(length, path.length)));
        }

        void goToWhole(int document) {
            at = document;
            length = 0;
        }

        boolean goDown(int step) {
            if (length < 0 || length >= path.length) {
                return false;
            }
            path[length] = step;
            length++;
            return true;
        }

        boolean goUp() {
            if (length == 0) {
                return false;
            }
            length--;
            return true;
        }

        /** Goes to a place of a walk through the DOCUMENT. */
        void goToPlace(int document, Walk walk, int place) {
            at = document;
            length = Math.min(walk.levelAt(place), path.length);
            int passed = place;
            for (int i = length - 1; i >= 0; i--) {
                path[i] = walk.stepTo(passed);
                passed = walk.above(passed);
            }
        }

        /** Loses STEPS from the end on, till the PATH is RIGHT. */
        void settle(Value whole) {
            Value there = whole;
            int right = 0;
            for (int i = 0; i < length && i < path.length; i++) {
                there = there.partAt(there.placeOf(path[i]));
                if (there == null) {
                    break;
                }
                right++;
            }
            length = right;
        }
    }

    /** One OPERATION of a PATCH. It never changes, so that PATCHES can share it. */
    private static final class Operation {
        final int code;
        final int[] path;
        final int step;
        /** Null with DROP. */
        final Value value;

        Operation(int code, int[] path, int step, Value value) {
            this.code = code;
            this.path = path;
            this.step = step;
            this.value = value;
        }

        /** The one that undoes it, with what it took out. */
        Operation inverse(Value taken) {
            switch (code) {
                case ADD:
                    return new Operation(DROP, path, step, null);
                case DROP:
                    return new Operation(ADD, path, step, taken);
                case SET:
                    return new Operation(SET, path, step, taken);
                default:
                    return this;
            }
        }

        int tell(int what) {
            switch (what) {
                case 0:
                    return code;
                case 1:
                    return path.length;
                case 2:
                    return step;
                default:
                    return value == null ? 0 : value.size;
            }
        }
    }

    /** The OPERATIONS of a PATCH. */
    private static final class Patch {
        int count;
        private final Operation[] held = new Operation[MOST_OPERATIONS];

        void clear() {
            count = 0;
        }

        void append(Operation operation) {
            if (count >= 0 && count < held.length) {
                held[count] = operation;
                count++;
            }
        }

        /** Null if there is no such one. */
        Operation operationAt(int number) {
            if (number < 0 || number >= count || number >= held.length) {
                return null;
            }
            return held[number];
        }
    }

    /** Changes a VALUE, one OPERATION after the other; whoever began it puts the outcome in place. */
    private static final class Editor {
        Value whole;
        /** What the last change took out; null if it took nothing. */
        Value taken;
        private int length;
        private final Value[] passed = new Value[MOST_STEPS];
        private final int[] places = new int[MOST_STEPS];

        Editor(Value whole) {
            this.whole = whole;
        }

        void begin(Value start) {
            whole = start;
            taken = null;
        }

        boolean isAllowed() {
            return whole.size <= MOST_SIZE && whole.depth <= MOST_DEPTH;
        }

        boolean perform(Operation operation) {
            int[] path = operation.path;
            switch (operation.code) {
                case ADD:
                    return addAt(path, path.length, operation.step, operation.value);
                case DROP:
                    return dropAt(path, path.length, operation.step);
                case SET:
                    return putAt(path, path.length, operation.value);
                default:
                    return testAt(path, path.length, operation.value);
            }
        }

        boolean addAt(int[] path, int steps, int step, Value value) {
            Value there = follow(path, steps);
            taken = null;
            if (there == null || value == null) {
                return false;
            }
            int place = there.placeToAdd(step);
            if (place < 0) {
                return false;
            }
            rebuild(there.withAdded(place, step, value));
            return true;
        }

        boolean dropAt(int[] path, int steps, int step) {
            Value there = follow(path, steps);
            taken = null;
            if (there == null) {
                return false;
            }
            int place = there.placeOf(step);
            if (place < 0) {
                return false;
            }
            taken = there.partAt(place);
            rebuild(there.withoutPart(place));
            return true;
        }

        boolean putAt(int[] path, int steps, Value value) {
            Value there = follow(path, steps);
            taken = there;
            if (there == null || value == null) {
                return false;
            }
            rebuild(value);
            return true;
        }

        private boolean testAt(int[] path, int steps, Value value) {
            Value there = follow(path, steps);
            taken = null;
            return there != null && there.isSameAs(value);
        }

        /** What a PATH leads to, null if it is not RIGHT; notes the way for rebuild. */
        private Value follow(int[] path, int steps) {
            if (steps < 0 || steps > path.length || steps > MOST_STEPS) {
                return null;
            }
            length = steps;
            Value there = whole;
            for (int i = 0; i < steps && there != null; i++) {
                passed[i] = there;
                places[i] = there.placeOf(path[i]);
                there = there.partAt(places[i]);
            }
            return there;
        }

        /** Makes the VALUES on the way anew, with another VALUE at its end. */
        private void rebuild(Value end) {
            Value built = end;
            for (int i = length - 1; i >= 0; i--) {
                Value above = passed[i];
                if (above != null) {
                    built = above.withPart(places[i], built);
                }
            }
            whole = built;
        }
    }

    /** Compares two VALUES as large as DOCUMENTS are. */
    private static final class Differ {
        /** For LISTS: the DIFFERENCE of what is left from i and j on, row by row from a base. */
        private final int[] table = new int[TABLE_CELLS];
        private final int[] path = new int[MOST_STEPS];
        private final Operation[] written = new Operation[MOST_OPERATIONS];
        private int count;

        /** The DIFFERENCE of two VALUES. */
        int compare(Value a, Value b) {
            return between(a, b, 0, 0);
        }

        /** Level tells how far it is beneath the first two, base where the table is free. */
        private int between(Value a, Value b, int level, int base) {
            if (a == b || a == null || b == null) {
                return 0;
            }
            if (level <= MOST_LEVELS && a.kind == LIST && b.kind == LIST) {
                return fillTable(a, b, level, base) ? table[base] : a.size + b.size;
            }
            if (level <= MOST_LEVELS && a.kind == OBJECT && b.kind == OBJECT) {
                return betweenObjects(a, b, level, base);
            }
            return a.kind == b.kind && a.number == b.number ? 0 : a.size + b.size;
        }

        private int betweenObjects(Value a, Value b, int level, int base) {
            int sum = 0;
            int i = 0;
            int j = 0;
            for (int turn = a.width() + b.width(); turn > 0; turn--) {
                int order = order(a, i, b, j);
                if (order == 0) {
                    sum += between(a.partAt(i), b.partAt(j), level + 1, base);
                    turn--;
                } else {
                    sum += order < 0 ? sizeAt(a, i) : sizeAt(b, j);
                }
                i += order <= 0 ? 1 : 0;
                j += order >= 0 ? 1 : 0;
            }
            return sum;
        }

        /** Less than 0 if a's CHILD comes first by its KEY, more if b's does, 0 if both have it. */
        private static int order(Value a, int i, Value b, int j) {
            int keyOfA = i < a.width() ? a.stepOf(i) : MOST_KEY + 1;
            int keyOfB = j < b.width() ? b.stepOf(j) : MOST_KEY + 1;
            return keyOfA - keyOfB;
        }

        private static int sizeAt(Value value, int place) {
            Value part = value.partAt(place);
            return part == null ? 0 : part.size;
        }

        /** False if the table has no room for them, which no DOCUMENTS need. */
        private boolean fillTable(Value a, Value b, int level, int base) {
            int rows = a.width() + 1;
            int columns = b.width() + 1;
            if (base < 0 || rows > MOST_SIZE || columns > MOST_SIZE
                    || base + rows * columns > table.length) {
                return false;
            }
            for (int i = rows - 1; i >= 0; i--) {
                for (int j = columns - 1; j >= 0; j--) {
                    table[base + i * columns + j] = leastFrom(a, i, b, j, level, base);
                }
            }
            return true;
        }

        /** The DIFFERENCE of what is left, when all cells behind this one are filled. */
        private int leastFrom(Value a, int i, Value b, int j, int level, int base) {
            if (i >= a.width() && j >= b.width()) {
                return 0;
            }
            if (i >= a.width()) {
                return sizeAt(b, j) + cell(a, i, b, j + 1, base);
            }
            if (j >= b.width()) {
                return sizeAt(a, i) + cell(a, i + 1, b, j, base);
            }
            int least = Math.min(sizeAt(b, j) + cell(a, i, b, j + 1, base),
                    sizeAt(a, i) + cell(a, i + 1, b, j, base));
            return Math.min(least, pairedFrom(a, i, b, j, level, base));
        }

        /** The DIFFERENCE of what is left, if the next two CHILDREN are a pair. */
        private int pairedFrom(Value a, int i, Value b, int j, int level, int base) {
            return between(a.partAt(i), b.partAt(j), level + 1, freeBehind(a, b, base))
                    + cell(a, i + 1, b, j + 1, base);
        }

        private static int freeBehind(Value a, Value b, int base) {
            return base + (a.width() + 1) * (b.width() + 1);
        }

        private int cell(Value a, int i, Value b, int j, int base) {
            int cell = base + i * (b.width() + 1) + j;
            if (i > a.width() || j > b.width() || cell < 0 || cell >= table.length) {
                return 0;
            }
            return table[cell];
        }

        /** Writes the PATCH from a to b, as much of it as a PATCH holds; answers how long it is. */
        int write(Value a, Value b) {
            count = 0;
            writeAt(a, b, 0, 0);
            return count;
        }

        /** Null if there is no such one among those that were written last. */
        Operation operationAt(int number) {
            if (number < 0 || number >= count || number >= written.length) {
                return null;
            }
            return written[number];
        }

        private void writeAt(Value a, Value b, int level, int base) {
            if (a == null || b == null || a.isSameAs(b)) {
                return;
            }
            boolean isDeeper = level < path.length;
            if (isDeeper && a.kind == LIST && b.kind == LIST && fillTable(a, b, level, base)) {
                writeLists(a, b, level, base);
            } else if (isDeeper && a.kind == OBJECT && b.kind == OBJECT) {
                writeObjects(a, b, level, base);
            } else {
                note(SET, level, 0, b);
            }
        }

        private void writeObjects(Value a, Value b, int level, int base) {
            int i = 0;
            int j = 0;
            for (int turn = a.width() + b.width(); turn > 0; turn--) {
                int order = order(a, i, b, j);
                if (order == 0) {
                    writeBelow(a.partAt(i), b.partAt(j), a.stepOf(i), level, base);
                    turn--;
                } else if (order < 0) {
                    note(DROP, level, a.stepOf(i), null);
                } else {
                    note(ADD, level, b.stepOf(j), b.partAt(j));
                }
                i += order <= 0 ? 1 : 0;
                j += order >= 0 ? 1 : 0;
            }
        }

        private void writeBelow(Value a, Value b, int step, int level, int base) {
            if (level >= 0 && level < path.length) {
                path[level] = step;
                writeAt(a, b, level + 1, base);
            }
        }

        /** The table holds these two LISTS from base on. */
        private void writeLists(Value a, Value b, int level, int base) {
            int i = 0;
            int j = 0;
            for (int turn = a.width() + b.width(); turn > 0; turn--) {
                int left = cell(a, i, b, j, base);
                boolean hasA = i < a.width();
                boolean hasB = j < b.width();
                if (hasA && hasB && left == pairedFrom(a, i, b, j, level, base)) {
                    writeBelow(a.partAt(i), b.partAt(j), j, level, freeBehind(a, b, base));
                    i++;
                    j++;
                    turn--;
                } else if (hasA && left == sizeAt(a, i) + cell(a, i + 1, b, j, base)) {
                    note(DROP, level, j, null);
                    i++;
                } else {
                    note(ADD, level, j, b.partAt(j));
                    j++;
                }
            }
        }

        private void note(int code, int length, int step, Value value) {
            if (count >= 0 && count < written.length && length >= 0 && length <= path.length) {
                written[count] = new Operation(code, Arrays.copyOf(path, length), step, value);
            }
            count++;
        }
    }

    /** A SCHEMA. */
    private static final class Schema {
        int kinds = ALL_KINDS;
        int low = -MOST_NUMBER;
        int high = MOST_NUMBER;
        int least;
        int most = MOST_SIZE;
        int item = ANYTHING;
        int rest = ANYTHING;
        int keyCount;
        /** The KEYS that have an own SCHEMA, rising. */
        private final int[] keys = new int[MOST_OWN_KEYS];
        private final int[] owns = new int[MOST_OWN_KEYS];
        private final boolean[] isNeeded = new boolean[MOST_OWN_KEYS];

        /** False if there is no room for the KEY. */
        boolean putKey(int key, int own, boolean isKeyNeeded) {
            int place = placeOfKey(key);
            if (place < 0) {
                if (keyCount >= keys.length) {
                    return false;
                }
                place = makeRoom(key);
            }
            keys[place] = key;
            owns[place] = own;
            isNeeded[place] = isKeyNeeded;
            return true;
        }

        /** Moves the greater KEYS on; there must be room for one more. */
        private int makeRoom(int key) {
            int place = keyCount;
            keyCount++;
            while (place > 0 && place < keys.length && keys[place - 1] > key) {
                keys[place] = keys[place - 1];
                owns[place] = owns[place - 1];
                isNeeded[place] = isNeeded[place - 1];
                place--;
            }
            return place;
        }

        private int placeOfKey(int key) {
            for (int i = 0; i < keyCount && i < keys.length; i++) {
                if (keys[i] == key) {
                    return i;
                }
            }
            return -1;
        }

        /** The SCHEMA for a CHILD, or ANYTHING, or FORBIDDEN. */
        int forChild(int parentKind, int step) {
            if (parentKind == LIST) {
                return item;
            }
            int place = placeOfKey(step);
            return place < 0 ? rest : owns[place];
        }

        int countMissing(Value object) {
            int missing = 0;
            for (int i = 0; i < keyCount && i < keys.length; i++) {
                if (isNeeded[i] && object.placeOf(keys[i]) < 0) {
                    missing++;
                }
            }
            return missing;
        }
    }

    /** All VALUES of one VALUE as large as DOCUMENTS are, each ahead of its CHILDREN. */
    private static final class Walk {
        int count;
        private final Value[] values = new Value[MOST_SIZE];
        private final int[] parents = new int[MOST_SIZE];
        private final int[] steps = new int[MOST_SIZE];
        private final int[] levels = new int[MOST_SIZE];

        void fill(Value whole) {
            count = Math.min(whole.size, MOST_SIZE);
            enter(0, whole, 0, 0, 0);
            for (int place = 0; place < count; place++) {
                Value value = values[place];
                int next = place + 1;
                for (int i = 0; value != null && i < value.width(); i++) {
                    Value part = value.partAt(i);
                    enter(next, part, place, value.stepOf(i), levels[place] + 1);
                    next += part == null ? 0 : part.size;
                }
            }
        }

        private void enter(int place, Value value, int parent, int step, int level) {
            if (place >= 0 && place < MOST_SIZE) {
                values[place] = value;
                parents[place] = parent;
                steps[place] = step;
                levels[place] = level;
            }
        }

        /** Null if there is no such place. */
        Value valueAt(int place) {
            return place >= 0 && place < count && place < MOST_SIZE ? values[place] : null;
        }

        int above(int place) {
            return place > 0 && place < MOST_SIZE ? parents[place] : 0;
        }

        int stepTo(int place) {
            return place > 0 && place < MOST_SIZE ? steps[place] : 0;
        }

        int levelAt(int place) {
            return place > 0 && place < MOST_SIZE ? levels[place] : 0;
        }

        /** What a PART finds of a set of places. */
        long pick(long from, int part, int n) {
            long picked = 0;
            for (int place = 0; place < count; place++) {
                Value value = valueAt(place);
                if (value != null && isPicked(from, picked, place, value, part, n)) {
                    picked |= 1L << place;
                }
            }
            return picked;
        }

        private boolean isPicked(long from, long picked, int place, Value value, int part, int n) {
            boolean isOne = isIn(from, place);
            boolean isBelow = place > 0 && isIn(from, above(place));
            switch (part) {
                case STEP:
                    return isBelow && stepTo(place) == n;
                case ANY:
                    return isBelow;
                case DEEP:
                    return isOne || place > 0 && isIn(picked, above(place));
                case LAST:
                    return isBelow && isLast(place, value);
                case LESS:
                    return isOne && value.kind == NUMBER && value.number < n;
                case WITH:
                    return isOne && value.placeOf(n) >= 0;
                default:
                    return isOne && value.kind == n;
            }
        }

        /** The last CHILD ends where its parent ends. */
        private boolean isLast(int place, Value value) {
            Value parent = valueAt(above(place));
            return parent != null && place + value.size == above(place) + parent.size;
        }

        long numbersAmong(long places) {
            return pick(places, KIND, NUMBER);
        }

        long sumOf(long numbers) {
            long sum = 0;
            for (int place = 0; place < count; place++) {
                Value value = valueAt(place);
                if (value != null && isIn(numbers, place)) {
                    sum += value.number;
                }
            }
            return sum;
        }

        boolean hasNumber(long places, int low, int high) {
            for (int place = 0; place < count; place++) {
                Value value = valueAt(place);
                if (value != null && isIn(places, place) && value.kind == NUMBER
                        && value.number >= low && value.number <= high) {
                    return true;
                }
            }
            return false;
        }

        /** The whole VALUE without those at these places; behind it the walk must be filled anew. */
        Value without(long dropped) {
            for (int place = count - 1; place > 0; place--) {
                int above = above(place);
                Value parent = valueAt(above);
                if (parent != null) {
                    int at = parent.placeOf(stepTo(place));
                    if (isIn(dropped, place)) {
                        values[above] = parent.withoutPart(at);
                    } else if (parent.partAt(at) != valueAt(place)) {
                        values[above] = parent.withPart(at, valueAt(place));
                    }
                }
            }
            return values[0];
        }
    }

    /** CHECKS what is in a walk. */
    private static final class Checker {
        int wantedPlace;
        int wantedCode;
        private int wanted;
        private int count;
        private final Walk walk;
        private final Schema[] schemas;
        /** By which SCHEMA each place is CHECKED; ANYTHING or FORBIDDEN if by none. */
        private final int[] by = new int[MOST_SIZE];

        Checker(Walk walk, Schema[] schemas) {
            this.walk = walk;
            this.schemas = schemas;
        }

        /** How many FAILURES there are; keeps place and CODE of the wanted one. */
        int countFailures(int schema, int wantedFailure) {
            wanted = wantedFailure;
            count = 0;
            for (int place = 0; place < walk.count && place < by.length; place++) {
                Value value = walk.valueAt(place);
                by[place] = place == 0 ? schema : schemaBelow(walk.above(place), place);
                if (by[place] == FORBIDDEN) {
                    note(place, 5);
                } else if (by[place] >= 0 && by[place] < schemas.length && value != null
                        && !isOfKind(place, value, schemas[by[place]])) {
                    by[place] = ANYTHING;
                }
            }
            return count;
        }

        private int schemaBelow(int parent, int place) {
            Value value = walk.valueAt(parent);
            if (value == null || parent < 0 || parent >= by.length || by[parent] < 0
                    || by[parent] >= schemas.length) {
                return ANYTHING;
            }
            return schemas[by[parent]].forChild(value.kind, walk.stepTo(place));
        }

        /** Notes what is wrong with the VALUE by itself; false if not even its KIND is allowed. */
        private boolean isOfKind(int place, Value value, Schema schema) {
            if ((schema.kinds >> value.kind & 1) == 0) {
                note(place, 1);
                return false;
            }
            if (value.kind == NUMBER && (value.number < schema.low || value.number > schema.high)) {
                note(place, 2);
            }
            boolean isNest = value.kind == LIST || value.kind == OBJECT;
            if (isNest && (value.width() < schema.least || value.width() > schema.most)) {
                note(place, 3);
            }
            int missing = value.kind == OBJECT ? schema.countMissing(value) : 0;
            for (int i = 0; i < missing; i++) {
                note(place, 4);
            }
            return true;
        }

        private void note(int place, int code) {
            if (count == wanted) {
                wantedPlace = place;
                wantedCode = code;
            }
            count++;
        }
    }

    /** The PARTS of a QUERY. */
    private static final class Query {
        int count;
        private final int[] codes = new int[MOST_PARTS];
        private final int[] ns = new int[MOST_PARTS];

        /** False if there is no room. */
        boolean append(int code, int n) {
            if (count < 0 || count >= codes.length) {
                return false;
            }
            codes[count] = code;
            ns[count] = n;
            count++;
            return true;
        }

        /** What it finds, as a set of places of the walk. */
        long findIn(Walk walk) {
            long places = 1L;
            for (int i = 0; i < count && i < codes.length; i++) {
                places = walk.pick(places, codes[i], ns[i]);
            }
            return places;
        }
    }
}
