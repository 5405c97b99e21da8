import java.util.ArrayList;
import java.util.HashMap;
import java.util.List;
import java.util.Map;
import java.util.NoSuchElementException;
import java.util.TreeMap;

/**
 * The document's words once more, written plainly with the Java library and without a look at how
 * MarlStore does it: the tests compare the answers of both.
 */
final class Model {

    /** A VALUE; copied whenever it goes from one holder to another. */
    static final class Node {
        int kind;
        int number = -10000;
        final List<Node> list = new ArrayList<>();
        final TreeMap<Integer, Node> keys = new TreeMap<>();

        Node(int kind) {
            this.kind = kind;
        }

        TreeMap<Integer, Node> children() {
            TreeMap<Integer, Node> all = new TreeMap<>(keys);
            for (int i = 0; i < list.size(); i++) {
                all.put(i, list.get(i));
            }
            return all;
        }

        Node copied() {
            Node copy = new Node(kind);
            copy.number = number;
            for (Node child : list) {
                copy.list.add(child.copied());
            }
            for (Map.Entry<Integer, Node> entry : keys.entrySet()) {
                copy.keys.put(entry.getKey(), entry.getValue().copied());
            }
            return copy;
        }

        void become(Node other) {
            Node copy = other.copied();
            kind = copy.kind;
            number = copy.number;
            list.clear();
            list.addAll(copy.list);
            keys.clear();
            keys.putAll(copy.keys);
        }

        int sizeOfIt() {
            int sum = 1;
            for (Node child : children().values()) {
                sum += child.sizeOfIt();
            }
            return sum;
        }

        int depthOfIt() {
            int greatest = 0;
            for (Node child : children().values()) {
                greatest = Math.max(greatest, child.depthOfIt());
            }
            return 1 + greatest;
        }

        String text() {
            return kind + ":" + number + texts();
        }

        private String texts() {
            StringBuilder all = new StringBuilder("(");
            for (Map.Entry<Integer, Node> entry : children().entrySet()) {
                all.append(entry.getKey()).append('=').append(entry.getValue().text()).append(' ');
            }
            return all.append(')').toString();
        }

        Node at(List<Integer> path) {
            Node there = this;
            for (int step : path) {
                there = there.children().get(step);
                if (there == null) {
                    return null;
                }
            }
            return there;
        }

        boolean canAdd(int step) {
            if (kind == 3) {
                return step >= 0 && step <= list.size();
            }
            return kind == 4 && step >= 0 && step <= 99 && !keys.containsKey(step);
        }

        void add(int step, Node child) {
            if (kind == 3) {
                list.add(step, child.copied());
            } else {
                keys.put(step, child.copied());
            }
        }

        Node remove(int step) {
            return kind == 3 ? list.remove(step) : keys.remove(step);
        }
    }

    static final class Op {
        int code;
        List<Integer> path = new ArrayList<>();
        int step;
        Node value;

        Op(int code, List<Integer> path, int step, Node value) {
            this.code = code;
            this.path.addAll(path);
            this.step = step;
            this.value = value == null ? null : value.copied();
        }
    }

    static final class Rules {
        int kinds = 31;
        int low = -9999;
        int high = 9999;
        int least = 0;
        int most = 50;
        int item = -1;
        int rest = -1;
        final TreeMap<Integer, Integer> own = new TreeMap<>();
        final TreeMap<Integer, Boolean> needed = new TreeMap<>();
    }

    static final class Failure {
        final int code;
        final List<Integer> path;

        Failure(int code, List<Integer> path) {
            this.code = code;
            this.path = path;
        }
    }

    final Node[] documents = new Node[6];
    Node clip = new Node(0);
    int at = 0;
    List<Integer> path = new ArrayList<>();
    final List<List<Op>> patches = new ArrayList<>();
    final List<Rules> schemas = new ArrayList<>();
    final List<List<int[]>> queries = new ArrayList<>();

    Model() {
        for (int i = 0; i < 6; i++) {
            documents[i] = new Node(0);
        }
    }

    static void bounds(boolean isRight) {
        if (!isRight) {
            throw new IndexOutOfBoundsException();
        }
    }

    static void argument(boolean isRight) {
        if (!isRight) {
            throw new IllegalArgumentException();
        }
    }

    static void state(boolean isRight) {
        if (!isRight) {
            throw new IllegalStateException();
        }
    }

    void needDocument(int d) {
        bounds(d >= 0 && d < 6);
    }

    void needPatch(int p) {
        bounds(p >= 0 && p < patches.size());
    }

    void needSchema(int s) {
        bounds(s >= 0 && s < schemas.size());
    }

    void needQuery(int q) {
        bounds(q >= 0 && q < queries.size());
    }

    Node there() {
        Node there = documents[at].at(path);
        if (there == null) {
            throw new NoSuchElementException("the model's path is not right");
        }
        return there;
    }

    static boolean isAllowed(Node node) {
        return node.sizeOfIt() <= 50 && node.depthOfIt() <= 7;
    }

    void settle() {
        while (documents[at].at(path) == null) {
            path.remove(path.size() - 1);
        }
    }

    int point(int document) {
        needDocument(document);
        at = document;
        path.clear();
        return there().kind;
    }

    int into(int step) {
        bounds(there().children().containsKey(step));
        path.add(step);
        return there().kind;
    }

    int up() {
        state(!path.isEmpty());
        path.remove(path.size() - 1);
        return path.size();
    }

    int stepAt(int number) {
        bounds(number >= 0 && number < path.size());
        return path.get(number);
    }

    int set(int kind, int number) {
        argument(kind >= 0 && kind <= 4);
        argument(kind != 1 || number == 0 || number == 1);
        argument(kind != 2 || number >= -9999 && number <= 9999);
        int before = there().sizeOfIt();
        Node fresh = new Node(kind);
        fresh.number = kind == 1 || kind == 2 ? number : -10000;
        there().become(fresh);
        return before;
    }

    int copy() {
        clip = there().copied();
        return clip.sizeOfIt();
    }

    int keep(Node before) {
        if (!isAllowed(documents[at])) {
            documents[at] = before;
            return -1;
        }
        settle();
        return documents[at].sizeOfIt();
    }

    int paste() {
        Node before = documents[at].copied();
        there().become(clip);
        return keep(before);
    }

    int insert(int step) {
        Node before = documents[at].copied();
        if (!there().canAdd(step)) {
            return -1;
        }
        there().add(step, clip);
        return keep(before);
    }

    int drop(int step) {
        Node before = documents[at].copied();
        if (!there().children().containsKey(step)) {
            return -1;
        }
        there().remove(step);
        return keep(before);
    }

    int childStep(int place) {
        List<Integer> steps = new ArrayList<>(there().children().keySet());
        bounds(place >= 0 && place < steps.size());
        return steps.get(place);
    }

    int size(int document) {
        needDocument(document);
        return documents[document].sizeOfIt();
    }

    int depth(int document) {
        needDocument(document);
        return documents[document].depthOfIt();
    }

    int addPatch() {
        state(patches.size() < 8);
        patches.add(new ArrayList<>());
        return patches.size() - 1;
    }

    int addOperation(int patch, int code, int step) {
        needPatch(patch);
        argument(code >= 0 && code <= 3);
        argument(code > 1 || step >= 0 && step <= 99);
        state(patches.get(patch).size() < 20);
        patches.get(patch).add(new Op(code, path, code > 1 ? 0 : step, code == 1 ? null : clip));
        return patches.get(patch).size();
    }

    /** Does the OPERATIONS on the whole; the number of the one that fails, or how many there are. */
    static int perform(List<Op> patch, Node whole, List<Op> inverse) {
        for (int i = 0; i < patch.size(); i++) {
            Op op = patch.get(i);
            Node there = whole.at(op.path);
            if (there == null) {
                return i;
            }
            if (op.code == 0) {
                if (!there.canAdd(op.step)) {
                    return i;
                }
                there.add(op.step, op.value);
                inverse.add(0, new Op(1, op.path, op.step, null));
            } else if (op.code == 1) {
                if (!there.children().containsKey(op.step)) {
                    return i;
                }
                inverse.add(0, new Op(0, op.path, op.step, there.remove(op.step)));
            } else if (op.code == 2) {
                inverse.add(0, new Op(2, op.path, 0, there));
                there.become(op.value);
            } else {
                if (!there.text().equals(op.value.text())) {
                    return i;
                }
                inverse.add(0, new Op(3, op.path, 0, op.value));
            }
        }
        return patch.size();
    }

    int failsAt(int patch, int document) {
        needPatch(patch);
        needDocument(document);
        Node whole = documents[document].copied();
        List<Op> operations = patches.get(patch);
        int done = perform(operations, whole, new ArrayList<>());
        return done == operations.size() && isAllowed(whole) ? -1 : done;
    }

    int apply(int patch, int document) {
        if (failsAt(patch, document) != -1) {
            return -1;
        }
        List<Op> inverse = new ArrayList<>();
        perform(patches.get(patch), documents[document], inverse);
        settle();
        if (patches.size() == 8) {
            return -2;
        }
        patches.add(inverse);
        return patches.size() - 1;
    }

    int forget() {
        state(!patches.isEmpty());
        patches.remove(patches.size() - 1);
        return patches.size();
    }

    int operations(int patch) {
        needPatch(patch);
        return patches.get(patch).size();
    }

    int ofOperation(int patch, int operation, int what) {
        needPatch(patch);
        bounds(operation >= 0 && operation < patches.get(patch).size());
        argument(what >= 0 && what <= 3);
        Op op = patches.get(patch).get(operation);
        int[] all = {op.code, op.path.size(), op.step, op.value == null ? 0 : op.value.sizeOfIt()};
        return all[what];
    }

    int difference(int one, int other) {
        needDocument(one);
        needDocument(other);
        return difference(documents[one], documents[other]);
    }

    static int difference(Node a, Node b) {
        if (a.text().equals(b.text())) {
            return 0;
        }
        if (a.kind == 3 && b.kind == 3) {
            return difference(a.list, b.list, new HashMap<>());
        }
        if (a.kind != 4 || b.kind != 4) {
            return a.sizeOfIt() + b.sizeOfIt();
        }
        int sum = 0;
        for (int key = 0; key <= 99; key++) {
            Node ofA = a.keys.get(key);
            Node ofB = b.keys.get(key);
            if (ofA != null && ofB != null) {
                sum += difference(ofA, ofB);
            } else if (ofA != null || ofB != null) {
                sum += ofA != null ? ofA.sizeOfIt() : ofB.sizeOfIt();
            }
        }
        return sum;
    }

    /** From the ends on: the last CHILDREN are a pair, or one of them is alone. */
    static int difference(List<Node> a, List<Node> b, Map<Integer, Integer> known) {
        if (a.isEmpty() || b.isEmpty()) {
            int sum = 0;
            for (Node node : a.isEmpty() ? b : a) {
                sum += node.sizeOfIt();
            }
            return sum;
        }
        int name = a.size() * 1000 + b.size();
        if (!known.containsKey(name)) {
            Node lastOfA = a.get(a.size() - 1);
            Node lastOfB = b.get(b.size() - 1);
            List<Node> restOfA = a.subList(0, a.size() - 1);
            List<Node> restOfB = b.subList(0, b.size() - 1);
            int least = lastOfA.sizeOfIt() + difference(restOfA, b, known);
            least = Math.min(least, lastOfB.sizeOfIt() + difference(a, restOfB, known));
            least = Math.min(least,
                    difference(lastOfA, lastOfB) + difference(restOfA, restOfB, known));
            known.put(name, least);
        }
        return known.get(name);
    }

    static List<Integer> longer(List<Integer> path, int step) {
        List<Integer> all = new ArrayList<>(path);
        all.add(step);
        return all;
    }

    static void patch(Node a, Node b, List<Integer> path, List<Op> out) {
        if (a.text().equals(b.text())) {
            return;
        }
        if (a.kind == 4 && b.kind == 4) {
            for (int key = 0; key <= 99; key++) {
                Node ofA = a.keys.get(key);
                Node ofB = b.keys.get(key);
                if (ofA != null && ofB != null) {
                    patch(ofA, ofB, longer(path, key), out);
                } else if (ofA != null) {
                    out.add(new Op(1, path, key, null));
                } else if (ofB != null) {
                    out.add(new Op(0, path, key, ofB));
                }
            }
        } else if (a.kind == 3 && b.kind == 3) {
            patchLists(a.list, b.list, path, out);
        } else {
            out.add(new Op(2, path, 0, b));
        }
    }

    static int left(List<Node> a, List<Node> b, int i, int j) {
        return difference(a.subList(i, a.size()), b.subList(j, b.size()), new HashMap<>());
    }

    static void patchLists(List<Node> a, List<Node> b, List<Integer> path, List<Op> out) {
        int i = 0;
        int j = 0;
        while (i < a.size() || j < b.size()) {
            int all = left(a, b, i, j);
            if (i < a.size() && j < b.size()
                    && all == difference(a.get(i), b.get(j)) + left(a, b, i + 1, j + 1)) {
                patch(a.get(i), b.get(j), longer(path, j), out);
                i++;
                j++;
            } else if (i < a.size() && all == a.get(i).sizeOfIt() + left(a, b, i + 1, j)) {
                out.add(new Op(1, path, j, null));
                i++;
            } else {
                out.add(new Op(0, path, j, b.get(j)));
                j++;
            }
        }
    }

    List<Op> patchFrom(int one, int other) {
        needDocument(one);
        needDocument(other);
        List<Op> out = new ArrayList<>();
        patch(documents[one], documents[other], new ArrayList<>(), out);
        return out;
    }

    int changes(int one, int other) {
        return patchFrom(one, other).size();
    }

    int diff(int one, int other) {
        List<Op> made = patchFrom(one, other);
        state(made.size() <= 20 && patches.size() < 8);
        patches.add(made);
        return patches.size() - 1;
    }

    int addSchema() {
        state(schemas.size() < 10);
        schemas.add(new Rules());
        return schemas.size() - 1;
    }

    int setKinds(int schema, int kinds, int low, int high) {
        needSchema(schema);
        argument(kinds >= 0 && kinds <= 31);
        argument(low >= -9999 && low <= 9999);
        argument(high >= low && high <= 9999);
        Rules rules = schemas.get(schema);
        int before = rules.kinds;
        rules.kinds = kinds;
        rules.low = low;
        rules.high = high;
        return before;
    }

    int setChildren(int schema, int least, int most, int item, int rest) {
        needSchema(schema);
        if (item != -1) {
            needSchema(item);
        }
        if (rest != -1 && rest != -2) {
            needSchema(rest);
        }
        argument(least >= 0 && least <= 50);
        argument(most >= least && most <= 50);
        Rules rules = schemas.get(schema);
        int before = rules.item;
        rules.least = least;
        rules.most = most;
        rules.item = item;
        rules.rest = rest;
        return before;
    }

    int setKey(int schema, int key, int own, boolean isNeeded) {
        needSchema(schema);
        needSchema(own);
        argument(key >= 0 && key <= 99);
        Rules rules = schemas.get(schema);
        state(rules.own.containsKey(key) || rules.own.size() < 4);
        rules.own.put(key, own);
        rules.needed.put(key, isNeeded);
        return rules.own.size();
    }

    List<Failure> failures(int document, int schema) {
        needDocument(document);
        needSchema(schema);
        List<Failure> out = new ArrayList<>();
        check(documents[document], schema, new ArrayList<>(), out);
        return out;
    }

    void check(Node node, int schema, List<Integer> path, List<Failure> out) {
        if (schema == -2) {
            out.add(new Failure(5, path));
        }
        if (schema < 0) {
            return;
        }
        Rules rules = schemas.get(schema);
        int[] powers = {1, 2, 4, 8, 16};
        if (rules.kinds / powers[node.kind] % 2 == 0) {
            out.add(new Failure(1, path));
            return;
        }
        if (node.kind == 2 && (node.number < rules.low || node.number > rules.high)) {
            out.add(new Failure(2, path));
        }
        int count = node.children().size();
        if (node.kind >= 3 && (count < rules.least || count > rules.most)) {
            out.add(new Failure(3, path));
        }
        for (int key : rules.own.keySet()) {
            if (node.kind == 4 && rules.needed.get(key) && !node.keys.containsKey(key)) {
                out.add(new Failure(4, path));
            }
        }
        for (Map.Entry<Integer, Node> entry : node.children().entrySet()) {
            int by = node.kind == 3 ? rules.item
                    : rules.own.getOrDefault(entry.getKey(), rules.rest);
            check(entry.getValue(), by, longer(path, entry.getKey()), out);
        }
    }

    int check(int document, int schema) {
        return failures(document, schema).size();
    }

    int pointFailure(int document, int schema, int failure) {
        List<Failure> all = failures(document, schema);
        bounds(failure >= 0 && failure < all.size());
        at = document;
        path = new ArrayList<>(all.get(failure).path);
        return all.get(failure).code;
    }

    int fitting(int schema) {
        needSchema(schema);
        int sum = 0;
        for (int i = 5; i >= 0; i--) {
            sum = 2 * sum + (check(i, schema) == 0 ? 1 : 0);
        }
        return sum;
    }

    int addQuery() {
        state(queries.size() < 6);
        queries.add(new ArrayList<>());
        return queries.size() - 1;
    }

    int addPart(int query, int part, int n) {
        needQuery(query);
        argument(part >= 0 && part <= 6);
        argument(part != 0 && part != 5 || n >= 0 && n <= 99);
        argument(part != 4 || n >= -9999 && n <= 9999);
        argument(part != 6 || n >= 0 && n <= 4);
        state(queries.get(query).size() < 5);
        queries.get(query).add(new int[] {part, n});
        return queries.get(query).size();
    }

    /** The PATHS of all that is beneath, and of it itself. */
    static void deep(Node node, List<Integer> path, List<List<Integer>> out) {
        out.add(path);
        for (Map.Entry<Integer, Node> entry : node.children().entrySet()) {
            deep(entry.getValue(), longer(path, entry.getKey()), out);
        }
    }

    static void one(Node whole, List<Integer> path, int[] part, List<List<Integer>> out) {
        Node node = whole.at(path);
        TreeMap<Integer, Node> children = node.children();
        int n = part[1];
        switch (part[0]) {
            case 0 -> {
                if (children.containsKey(n)) {
                    out.add(longer(path, n));
                }
            }
            case 1 -> {
                for (int step : children.keySet()) {
                    out.add(longer(path, step));
                }
            }
            case 2 -> deep(node, path, out);
            case 3 -> {
                if (!children.isEmpty()) {
                    out.add(longer(path, children.lastKey()));
                }
            }
            case 4 -> {
                if (node.kind == 2 && node.number < n) {
                    out.add(path);
                }
            }
            case 5 -> {
                if (children.containsKey(n)) {
                    out.add(path);
                }
            }
            default -> {
                if (node.kind == n) {
                    out.add(path);
                }
            }
        }
    }

    List<List<Integer>> find(int query, int document) {
        needQuery(query);
        needDocument(document);
        Node whole = documents[document];
        List<List<Integer>> found = new ArrayList<>();
        found.add(new ArrayList<>());
        for (int[] part : queries.get(query)) {
            List<List<Integer>> next = new ArrayList<>();
            for (List<Integer> path : found) {
                one(whole, path, part, next);
            }
            found = next;
        }
        List<List<Integer>> inOrder = new ArrayList<>();
        deep(whole, new ArrayList<>(), inOrder);
        inOrder.retainAll(found);
        return inOrder;
    }

    int found(int query, int document) {
        return find(query, document).size();
    }

    int pointFound(int query, int document, int number) {
        List<List<Integer>> found = find(query, document);
        bounds(number >= 0 && number < found.size());
        at = document;
        path = new ArrayList<>(found.get(number));
        return there().kind;
    }

    List<Integer> numbers(int query, int document) {
        List<Integer> numbers = new ArrayList<>();
        for (List<Integer> path : find(query, document)) {
            Node node = documents[document].at(path);
            if (node.kind == 2) {
                numbers.add(node.number);
            }
        }
        return numbers;
    }

    int having(int query, int low, int high) {
        needQuery(query);
        argument(high >= low);
        int sum = 0;
        for (int i = 5; i >= 0; i--) {
            boolean isThere = numbers(query, i).stream().anyMatch(x -> x >= low && x <= high);
            sum = 2 * sum + (isThere ? 1 : 0);
        }
        return sum;
    }

    double mean(int query, int document) {
        double sum = 0;
        List<Integer> numbers = numbers(query, document);
        for (int number : numbers) {
            sum += number;
        }
        return numbers.isEmpty() ? 0 : sum / numbers.size();
    }

    int dropFound(int query, int document) {
        List<List<Integer>> found = find(query, document);
        for (int i = found.size() - 1; i >= 0; i--) {
            List<Integer> path = found.get(i);
            if (!path.isEmpty()) {
                int last = path.size() - 1;
                documents[document].at(path.subList(0, last)).remove(path.get(last));
            }
        }
        settle();
        return documents[document].sizeOfIt();
    }

    private long d;

    private void eat(long x) {
        d = d * 31 + x;
    }

    private void eatNodes(Node node) {
        eat(node.kind);
        eat(node.number);
        eat(node.children().size());
        for (int step : node.children().keySet()) {
            eat(step);
        }
        for (Node child : node.children().values()) {
            eatNodes(child);
        }
    }

    private void eatValue(Node node) {
        eat(node.sizeOfIt());
        eat(node.depthOfIt());
        eatNodes(node);
    }

    long digest() {
        d = 58048;
        eat(at);
        eat(path.size());
        for (int step : path) {
            eat(step);
        }
        for (Node document : documents) {
            eatValue(document);
        }
        eatValue(clip);
        for (int i = 0; i < 5; i++) {
            eat(difference(i, i + 1));
        }
        eat(patches.size());
        for (int i = 0; i < patches.size(); i++) {
            eat(operations(i));
            for (int j = 0; j < operations(i); j++) {
                for (int what = 0; what < 4; what++) {
                    eat(ofOperation(i, j, what));
                }
            }
        }
        for (int i = 0; i < schemas.size(); i++) {
            eat(fitting(i));
        }
        for (int i = 0; i < queries.size(); i++) {
            for (int j = 0; j < 6; j++) {
                eat(found(i, j));
            }
        }
        return d;
    }
}
