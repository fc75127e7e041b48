import java.util.ArrayDeque;
import java.util.Deque;

/** The edges that the document names for undo, the error counters, the digest and the 512 calls: promises 24 to 26. */
public final class StateEdgesTest {
    private static final int NOT_COUNTED = 0;
    private static final Check CHECK = new Check("StateEdgesTest");

    private static void due(String call, long got, long want) {
        CHECK.due(call, got, want);
    }

    private static void nothingSaved() {
        CHECK.part("\"NOTHING_SAVED if there is none\"");
        EtchedPlate x = new EtchedPlate();
        due("undo()", x.undo(), -5);
        due("errorCount(-5)", x.errorCount(-5), 1);
        x.draw();
        due("undo()", x.undo(), 0);
        due("lines()", x.lines(), 0);
        due("undo()", x.undo(), -5);
        due("undo()", x.undo(), -5);
        due("errorCount(-5)", x.errorCount(-5), 3);
        due("draw()", x.draw(), 0);
        due("undo()", x.undo(), 0);
    }

    private static void fiveSaved() {
        for (int calls = 0; calls <= 10; calls++) {
            CHECK.part("\"at most 5 states are saved, and the oldest is dropped first\", " + calls + " calls");
            EtchedPlate x = Plates.withLines(calls);
            int saved = Math.min(5, calls);
            for (int undos = 1; undos <= saved; undos++) {
                due("undo()", x.undo(), saved - undos);
                due("lines()", x.lines(), calls - undos);
            }
            due("undo()", x.undo(), -5);
            due("lines()", x.lines(), calls - saved);
            due("errorCount(-5)", x.errorCount(-5), 1);
        }
    }

    /** Calls and undos in turn, so that each place of the saved states is used again and again. */
    private static void savedAgain() {
        CHECK.part("saved states after many calls and undos");
        for (int calls = 1; calls <= 8; calls++) {
            for (int undos = 1; undos <= calls; undos++) {
                savedAgain(calls, undos);
            }
        }
    }

    private static void savedAgain(int callsInTurn, int undosInTurn) {
        EtchedPlate x = Plates.withNothingSaved(Plates.withLines(1));
        Deque<Integer> depths = new ArrayDeque<>();
        int depth = 0;
        for (int round = 0; round < 15; round++) {
            for (int k = 0; k < callsInTurn; k++) {
                depths.addLast(depth);
                if (depths.size() > 5) {
                    depths.removeFirst();
                }
                x.dip(1);
                depth = Math.min(99, depth + 2);
            }
            for (int k = 0; k < undosInTurn && !depths.isEmpty(); k++) {
                depth = depths.removeLast();
                due("undo()", x.undo(), depths.size());
                due("depth(0)", x.depth(0), depth);
            }
        }
    }

    /** The call saves the state from before it, and undo brings all of it back. */
    private static void undoable(String text, Recipe recipe, Call call) {
        CHECK.part("\"Undoable\": " + text);
        int saved = Picture.savedStates(recipe);
        CHECK.holds(text + " is done", call.on(recipe.make()) >= 0);
        due("saved states", Picture.savedStates(recipe.then(call)), Math.min(5, saved + 1));
        Picture before = saved < 5 ? Picture.of(recipe) : Picture.withoutSaved(recipe);
        Recipe again = recipe.then(call);
        due("undo()", again.make().undo(), Math.min(4, saved));
        Call andBack = x -> {
            call.on(x);
            return x.undo();
        };
        before.dueAfter(CHECK, text + " and undo()", andBack, NOT_COUNTED);
    }

    private static void undoableOn(String name, Recipe recipe) {
        EtchedPlate x = recipe.make();
        int lines = x.lines();
        if (lines < 10) {
            undoable(name + ", draw()", recipe, y -> y.draw());
        }
        for (int strength = 1; strength <= 5; strength++) {
            int wanted = strength;
            undoable(name + ", setStrength(" + strength + ")", recipe, y -> y.setStrength(wanted));
        }
        for (int minutes : new int[] {0, 1, 99}) {
            undoable(name + ", dip(" + minutes + ")", recipe, y -> y.dip(minutes));
        }
        undoable(name + ", varnish(0)", recipe, y -> y.varnish(0));
        undoable(name + ", varnish of all", recipe, y -> y.varnish(Plates.allOf(lines)));
        undoable(name + ", clean()", recipe, y -> y.clean());
        if (lines > 0) {
            undoable(name + ", burnish(0, 1)", recipe, y -> y.burnish(0, 1));
            undoable(name + ", burnish(last, 99)", recipe, y -> y.burnish(lines - 1, 99));
        }
        if (x.prints() < 12) {
            undoable(name + ", pull()", recipe, y -> y.pull());
        }
    }

    private static void everyUndoable() {
        undoableOn("a new plate", EtchedPlate::new);
        undoableOn("four saved states", () -> Plates.pulled(Plates.withLines(2), 2));
        undoableOn("five saved states", () -> Plates.pulled(Plates.withDepths(30, 99, 5), 2));
        undoableOn("eleven prints", () -> Plates.undone(Plates.pulled(Plates.withDepths(30, 99, 5), 12), 1));
        undoableOn("a full plate", Plates::full);
        undoableOn("nine lines, no plan", () -> Plates.aimed(Plates.withDepths(9, 19, 29, 39, 49, 59, 69, 79, 89), 9));
        undoableOn("work since the latest print", () -> {
            EtchedPlate x = Plates.withNothingSaved(Plates.withLines(1));
            x.pull();
            x.dip(7);
            x.varnish(1);
            return x;
        });
    }

    /** Calls that are no errors and save nothing; a refused call saves nothing either (RefusalTest). */
    private static void notUndoable() {
        CHECK.part("calls whose description does not say \"undoable\"");
        Recipe recipe = () -> Plates.pulled(Plates.withLines(2), 1);
        Call[] calls = {
            x -> x.lines(), x -> x.depth(1), x -> x.varnished(), x -> x.meanDepthBits(), x -> x.prints(),
            x -> x.stateOf(0), x -> x.tone(0, 1), x -> x.mayPrecede(0, 0), x -> x.orders(1), x -> x.bestState(),
            x -> x.setTarget(0, 9), x -> x.setTarget(9, 0), x -> x.dips(), x -> x.dipMinutes(0), x -> x.dipVarnish(0),
            x -> x.obstacles(), x -> x.errorCount(-2), x -> x.digest(),
        };
        for (int k = 0; k < calls.length; k++) {
            due("saved states after call " + k, Picture.savedStates(recipe.then(calls[k])), 3);
            EtchedPlate x = recipe.then(calls[k]).make();
            due("undo()", x.undo(), 2);
            due("prints()", x.prints(), 0);
        }
    }

    private static void notBroughtBack() {
        CHECK.part("\"everything except the error counters and the target tones\"");
        EtchedPlate x = new EtchedPlate();
        x.undo();
        for (int k = 0; k < 11; k++) {
            x.draw();
        }
        x.dip(30);
        x.dips();
        x.depth(10);
        for (int line = 0; line < 10; line++) {
            x.setTarget(line, line);
        }
        x.clean();
        x.clean();
        x.clean();
        due("undo()", x.undo(), 4);
        Plates.undone(x, 4);
        due("undo()", x.undo(), -5);
        due("lines()", x.lines(), 9);
        due("errorCount(-2)", x.errorCount(-2), 1);
        due("errorCount(-3)", x.errorCount(-3), 1);
        due("errorCount(-4)", x.errorCount(-4), 1);
        due("errorCount(-5)", x.errorCount(-5), 2);
        for (int line = 0; line < 10; line++) {
            due("setTarget(" + line + ", 0)", x.setTarget(line, 0), line);
        }
    }

    private static void codes() {
        CHECK.part("\"code: an error code, -5 to -2\"");
        EtchedPlate x = new EtchedPlate();
        due("errorCount(-5)", x.errorCount(-5), 0);
        due("errorCount(-2)", x.errorCount(-2), 0);
        CHECK.part("\"OUT_OF_RANGE if code is out of range (this increments the counter of OUT_OF_RANGE)\"");
        due("errorCount(-6)", x.errorCount(-6), -2);
        due("errorCount(-2)", x.errorCount(-2), 1);
        due("errorCount(-1)", x.errorCount(-1), -2);
        due("errorCount(-2)", x.errorCount(-2), 2);
        due("errorCount(0)", x.errorCount(0), -2);
        due("errorCount(-2)", x.errorCount(-2), 3);
        for (int code = -5; code <= -3; code++) {
            due("errorCount(" + code + ")", x.errorCount(code), 0);
        }
    }

    /** Makes a plate, calls it to the last call but one, and has the last call tell the counter. */
    private static void countTo512(String text, int code, int callsBefore, Recipe recipe, Call refused) {
        CHECK.part("\"at most 512 calls\": " + text);
        EtchedPlate x = recipe.make();
        int count = 512 - callsBefore - 1;
        for (int k = 0; k < count; k++) {
            due(text, refused.on(x), code);
        }
        due("errorCount(" + code + ") as call 512", x.errorCount(code), count);
    }

    private static void manyErrors() {
        countTo512("depth(0)", -2, 0, EtchedPlate::new, x -> x.depth(0));
        countTo512("errorCount(-1)", -2, 0, EtchedPlate::new, x -> x.errorCount(-1));
        countTo512("dips()", -3, 2, () -> {
            EtchedPlate x = Plates.withLines(1);
            x.dip(5);
            return x;
        }, x -> x.dips());
        countTo512("draw()", -4, 10, () -> Plates.withLines(10), x -> x.draw());
        countTo512("pull()", -4, 12, () -> Plates.pulled(new EtchedPlate(), 12), x -> x.pull());
        countTo512("undo()", -5, 0, EtchedPlate::new, x -> x.undo());
    }

    private static void digestOfFew() {
        CHECK.part("digest of a new plate");
        // counters; strength; lines; varnish; prints; obstacles; dips; orders; saved
        due("digest()", new EtchedPlate().digest(), Picture.hash(0, 0, 0, 0, 2, 0, 0, 0, 0, 0, 1, 0));
        CHECK.part("digest of a plate after one error of each code");
        EtchedPlate x = Plates.undone(Plates.pulled(new EtchedPlate(), 13), 6);
        // 7 prints are left, the wear of 12 has met no line: 7! orders
        x.depth(0);
        x.draw();
        x.dip(5);
        x.dips();
        due("digest() with an obstacle", x.digest(), Picture.hash(1, 1, 1, 1, 2, 1, 10, 0, 0, 7,
            1, 0, 1, 0, 1, 0, 1, 0, 1, 0, 1, 0, 1, 0, 1, 5040, 2));
        CHECK.part("\"if there are no obstacles, the number of dips and, for each dip, ..\"");
        x.setTarget(0, 1);
        due("digest() without obstacles", x.digest(), Picture.hash(1, 1, 1, 1, 2, 1, 10, 1, 0, 7,
            1, 0, 1, 0, 1, 0, 1, 0, 1, 0, 1, 0, 1, 0, 0, 0, 5040, 2));
        x.setTarget(0, 2);
        long oneDip = Picture.hash(1, 1, 1, 1, 2, 1, 10, 2, 0, 7,
            1, 0, 1, 0, 1, 0, 1, 0, 1, 0, 1, 0, 1, 0, 0, 1, 9, 0, 5040, 2);
        due("digest() with a dip", x.digest(), oneDip);
        x.setTarget(1, 9);
        due("digest() with a target of no line", x.digest(), oneDip);
        CHECK.part("digest of twelve equal prints: 12! orders");
        x = Plates.pulled(new EtchedPlate(), 12);
        due("digest()", x.digest(),
            Picture.hash(0, 0, 0, 0, 2, 0, 0, 12, 1, 1, 1, 1, 1, 1, 1, 1, 1, 1, 1, 1, 0, 0, 479001600, 5));
    }

    private static void digestOfMany() {
        CHECK.part("digest against the answers of the other calls, \"with the overflow of long arithmetic ignored\"");
        Picture.of(Plates::full).dueDigests(CHECK, "a full plate");
        Picture.of(() -> Plates.aimed(Plates.full(), 0, 9, 0)).dueDigests(CHECK, "a full plate without a plan");
        Recipe tenDips = () -> Plates.withStrength(3, 9, 0, 1, 2, 3, 4, 5, 6, 7, 8);
        Recipe aimed = () -> Plates.aimed(tenDips.make(), 1, 1, 2, 3, 4, 5, 6, 7, 8, 9);
        Picture.of(aimed).dueDigests(CHECK, "ten lines and a plan with ten dips");
        due("dips()", aimed.make().dips(), 10);
        for (int strength = 1; strength <= 5; strength++) {
            int wanted = strength;
            Recipe recipe = () -> Plates.aimed(Plates.pulled(Plates.withStrength(wanted, 99, 0, 42, 7), 4), 9, 9, 5, 1);
            Picture.of(recipe).dueDigests(CHECK, "strength " + strength);
        }
    }

    public static void main(String[] args) {
        nothingSaved();
        fiveSaved();
        savedAgain();
        everyUndoable();
        notUndoable();
        notBroughtBack();
        codes();
        manyErrors();
        digestOfFew();
        digestOfMany();
        CHECK.end();
    }
}
