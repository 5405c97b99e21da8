/** Makes one call, told by its name and arguments, on a MarlStore or on the model. */
final class Calls {
    static final String[] NAMES = {
        "point", "into", "up", "document", "steps", "stepAt", "set", "copy", "paste", "insert",
        "drop", "kind", "number", "children", "childStep", "size", "depth", "clip", "addPatch",
        "addOperation", "apply", "failsAt", "diff", "forget", "patches", "operations",
        "ofOperation", "difference", "changes", "addSchema", "setKinds", "setChildren", "setKey",
        "check", "pointFailure", "fitting", "addQuery", "addPart", "found", "pointFound", "having",
        "mean", "dropFound", "digest"};

    private Calls() {
    }

    /** The answer as a text, or throws.Name. */
    static String of(MarlStore x, String name, int... a) {
        try {
            if (name.equals("mean")) {
                return Double.toString(x.mean(a[0], a[1]));
            }
            return Long.toString(whole(x, name, a));
        } catch (RuntimeException e) {
            return "throws." + e.getClass().getSimpleName();
        }
    }

    static String of(Model x, String name, int... a) {
        try {
            if (name.equals("mean")) {
                return Double.toString(x.mean(a[0], a[1]));
            }
            return Long.toString(whole(x, name, a));
        } catch (IndexOutOfBoundsException | IllegalArgumentException | IllegalStateException e) {
            return "throws." + e.getClass().getSimpleName();
        }
    }

    private static long whole(MarlStore x, String name, int[] a) {
        return switch (name) {
            case "point" -> x.point(a[0]);
            case "into" -> x.into(a[0]);
            case "up" -> x.up();
            case "document" -> x.document();
            case "steps" -> x.steps();
            case "stepAt" -> x.stepAt(a[0]);
            case "set" -> x.set(a[0], a[1]);
            case "copy" -> x.copy();
            case "paste" -> x.paste();
            case "insert" -> x.insert(a[0]);
            case "drop" -> x.drop(a[0]);
            case "kind" -> x.kind();
            case "number" -> x.number();
            case "children" -> x.children();
            case "childStep" -> x.childStep(a[0]);
            case "size" -> x.size(a[0]);
            case "depth" -> x.depth(a[0]);
            case "clip" -> x.clip();
            case "addPatch" -> x.addPatch();
            case "addOperation" -> x.addOperation(a[0], a[1], a[2]);
            case "apply" -> x.apply(a[0], a[1]);
            case "failsAt" -> x.failsAt(a[0], a[1]);
            case "diff" -> x.diff(a[0], a[1]);
            case "forget" -> x.forget();
            case "patches" -> x.patches();
            case "operations" -> x.operations(a[0]);
            case "ofOperation" -> x.ofOperation(a[0], a[1], a[2]);
            case "difference" -> x.difference(a[0], a[1]);
            case "changes" -> x.changes(a[0], a[1]);
            case "addSchema" -> x.addSchema();
            case "setKinds" -> x.setKinds(a[0], a[1], a[2], a[3]);
            case "setChildren" -> x.setChildren(a[0], a[1], a[2], a[3], a[4]);
            case "setKey" -> x.setKey(a[0], a[1], a[2], a[3] != 0);
            case "check" -> x.check(a[0], a[1]);
            case "pointFailure" -> x.pointFailure(a[0], a[1], a[2]);
            case "fitting" -> x.fitting(a[0]);
            case "addQuery" -> x.addQuery();
            case "addPart" -> x.addPart(a[0], a[1], a[2]);
            case "found" -> x.found(a[0], a[1]);
            case "pointFound" -> x.pointFound(a[0], a[1], a[2]);
            case "having" -> x.having(a[0], a[1], a[2]);
            case "dropFound" -> x.dropFound(a[0], a[1]);
            case "digest" -> x.digest();
            default -> throw new AssertionError(name);
        };
    }

    private static long whole(Model x, String name, int[] a) {
        return switch (name) {
            case "point" -> x.point(a[0]);
            case "into" -> x.into(a[0]);
            case "up" -> x.up();
            case "document" -> x.at;
            case "steps" -> x.path.size();
            case "stepAt" -> x.stepAt(a[0]);
            case "set" -> x.set(a[0], a[1]);
            case "copy" -> x.copy();
            case "paste" -> x.paste();
            case "insert" -> x.insert(a[0]);
            case "drop" -> x.drop(a[0]);
            case "kind" -> x.there().kind;
            case "number" -> x.there().number;
            case "children" -> x.there().children().size();
            case "childStep" -> x.childStep(a[0]);
            case "size" -> x.size(a[0]);
            case "depth" -> x.depth(a[0]);
            case "clip" -> x.clip.sizeOfIt();
            case "addPatch" -> x.addPatch();
            case "addOperation" -> x.addOperation(a[0], a[1], a[2]);
            case "apply" -> x.apply(a[0], a[1]);
            case "failsAt" -> x.failsAt(a[0], a[1]);
            case "diff" -> x.diff(a[0], a[1]);
            case "forget" -> x.forget();
            case "patches" -> x.patches.size();
            case "operations" -> x.operations(a[0]);
            case "ofOperation" -> x.ofOperation(a[0], a[1], a[2]);
            case "difference" -> x.difference(a[0], a[1]);
            case "changes" -> x.changes(a[0], a[1]);
            case "addSchema" -> x.addSchema();
            case "setKinds" -> x.setKinds(a[0], a[1], a[2], a[3]);
            case "setChildren" -> x.setChildren(a[0], a[1], a[2], a[3], a[4]);
            case "setKey" -> x.setKey(a[0], a[1], a[2], a[3] != 0);
            case "check" -> x.check(a[0], a[1]);
            case "pointFailure" -> x.pointFailure(a[0], a[1], a[2]);
            case "fitting" -> x.fitting(a[0]);
            case "addQuery" -> x.addQuery();
            case "addPart" -> x.addPart(a[0], a[1], a[2]);
            case "found" -> x.found(a[0], a[1]);
            case "pointFound" -> x.pointFound(a[0], a[1], a[2]);
            case "having" -> x.having(a[0], a[1], a[2]);
            case "dropFound" -> x.dropFound(a[0], a[1]);
            case "digest" -> x.digest();
            default -> throw new AssertionError(name);
        };
    }
}
