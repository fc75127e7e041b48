/**
 * "A call that returns an error code changes nothing except that it increments the
 * counter of that code": each call that is refused, with the first values beyond
 * each edge and the farthest, on plates in many states. NONE is no error code, and
 * a question is no change: both leave everything as it was.
 */
public final class RefusalTest {
    private static final int MIN = Integer.MIN_VALUE;
    private static final int MAX = Integer.MAX_VALUE;
    private static final int NOT_COUNTED = 0;
    private static final Check CHECK = new Check("RefusalTest");

    private final String name;
    private final Recipe recipe;
    private final Picture before;
    private final int lines;
    private final int prints;

    private RefusalTest(String name, Recipe recipe) {
        this.name = name;
        this.recipe = recipe;
        before = Picture.of(recipe);
        lines = recipe.make().lines();
        prints = recipe.make().prints();
    }

    /** The answer is the code, its counter is one more, and nothing else is changed. */
    private void refused(int code, String text, Call call) {
        CHECK.part(name);
        CHECK.due(text, call.on(recipe.make()), code);
        before.dueAfter(CHECK, text, call, code);
    }

    private void outOfRange(String text, Call call) {
        refused(EtchedPlate.OUT_OF_RANGE, text, call);
    }

    private void none(String text, Call call) {
        CHECK.part(name);
        CHECK.due(text, call.on(recipe.make()), EtchedPlate.NONE);
        before.dueAfter(CHECK, text, call, NOT_COUNTED);
    }

    private void changesNothing(String text, Call call) {
        CHECK.part(name);
        before.dueAfter(CHECK, text, call, NOT_COUNTED);
    }

    private void baths() {
        for (int strength : new int[] {MIN, -1, 0, 6, MAX}) {
            outOfRange("setStrength(" + strength + ")", x -> x.setStrength(strength));
        }
        for (int minutes : new int[] {MIN, -1, 100, MAX}) {
            outOfRange("dip(" + minutes + ")", x -> x.dip(minutes));
        }
    }

    private void setsOfLines() {
        int all = Plates.allOf(lines);
        for (int k = lines; k < 32; k++) {
            int beyond = 1 << k;
            outOfRange("varnish(" + beyond + ")", x -> x.varnish(beyond));
            outOfRange("varnish(" + (all | beyond) + ")", x -> x.varnish(all | beyond));
        }
        outOfRange("varnish(-1)", x -> x.varnish(-1));
        outOfRange("varnish(MAX)", x -> x.varnish(MAX));
    }

    private void burnishing() {
        for (int line : new int[] {MIN, -1, lines, 10, MAX}) {
            outOfRange("burnish(" + line + ", 1)", x -> x.burnish(line, 1));
            outOfRange("burnish(" + line + ", 99)", x -> x.burnish(line, 99));
            outOfRange("burnish(" + line + ", 0)", x -> x.burnish(line, 0));
        }
        for (int amount : new int[] {MIN, -1, 0, 100, MAX}) {
            outOfRange("burnish(0, " + amount + ")", x -> x.burnish(0, amount));
            outOfRange("burnish(last, " + amount + ")", x -> x.burnish(lines - 1, amount));
        }
    }

    private void numbersOfLinesAndPrints() {
        for (int line : new int[] {MIN, -1, lines, 10, MAX}) {
            outOfRange("depth(" + line + ")", x -> x.depth(line));
            outOfRange("tone(0, " + line + ")", x -> x.tone(0, line));
            outOfRange("tone(last, " + line + ")", x -> x.tone(prints - 1, line));
        }
        for (int print : new int[] {MIN, -1, prints, 12, MAX}) {
            outOfRange("stateOf(" + print + ")", x -> x.stateOf(print));
            outOfRange("tone(" + print + ", 0)", x -> x.tone(print, 0));
            outOfRange("tone(" + print + ", last)", x -> x.tone(print, lines - 1));
            outOfRange("tone(" + print + ", -1)", x -> x.tone(print, -1));
            outOfRange("mayPrecede(" + print + ", 0)", x -> x.mayPrecede(print, 0));
            outOfRange("mayPrecede(0, " + print + ")", x -> x.mayPrecede(0, print));
            outOfRange("mayPrecede(" + print + ", same)", x -> x.mayPrecede(print, print));
        }
    }

    private void setsOfPrints() {
        int all = Plates.allOf(prints);
        for (int k = prints; k < 32; k++) {
            int beyond = 1 << k;
            outOfRange("orders(" + beyond + ")", x -> x.orders(beyond));
            outOfRange("orders(" + (all | beyond) + ")", x -> x.orders(all | beyond));
        }
        outOfRange("orders(-1)", x -> x.orders(-1));
        outOfRange("orders(MAX)", x -> x.orders(MAX));
    }

    private void targetsDipsAndCodes() {
        for (int wrong : new int[] {MIN, -1, 10, MAX}) {
            outOfRange("setTarget(" + wrong + ", 0)", x -> x.setTarget(wrong, 0));
            outOfRange("setTarget(" + wrong + ", 9)", x -> x.setTarget(wrong, 9));
            outOfRange("setTarget(0, " + wrong + ")", x -> x.setTarget(0, wrong));
            outOfRange("setTarget(9, " + wrong + ")", x -> x.setTarget(9, wrong));
            outOfRange("setTarget(" + wrong + ", same)", x -> x.setTarget(wrong, wrong));
        }
        // these are checked first, before the plan is: they are the same without a plan
        for (int dip : new int[] {MIN, -2, -1}) {
            outOfRange("dipMinutes(" + dip + ")", x -> x.dipMinutes(dip));
            outOfRange("dipVarnish(" + dip + ")", x -> x.dipVarnish(dip));
        }
        for (int code : new int[] {MIN, -6, -1, 0, 1, 2, MAX}) {
            outOfRange("errorCount(" + code + ")", x -> x.errorCount(code));
        }
    }

    private void noRoom() {
        if (lines == 10) {
            refused(EtchedPlate.FULL, "draw()", x -> x.draw());
        }
        if (prints == 12) {
            refused(EtchedPlate.FULL, "pull()", x -> x.pull());
        }
        if (Picture.savedStates(recipe) == 0) {
            refused(EtchedPlate.NOTHING_SAVED, "undo()", x -> x.undo());
        }
    }

    private void plan() {
        int dips = recipe.make().dips();
        int blocked = EtchedPlate.IMPOSSIBLE;
        if (recipe.make().obstacles() != 0) {
            refused(blocked, "dips()", x -> x.dips());
        }
        for (int dip : new int[] {0, 1, 9, 10, 11, MAX}) {
            if (recipe.make().obstacles() != 0) {
                refused(blocked, "dipMinutes(" + dip + ")", x -> x.dipMinutes(dip));
                refused(blocked, "dipVarnish(" + dip + ")", x -> x.dipVarnish(dip));
            } else if (dip >= dips) {
                none("dipMinutes(" + dip + ")", x -> x.dipMinutes(dip));
                none("dipVarnish(" + dip + ")", x -> x.dipVarnish(dip));
            } else {
                changesNothing("dipMinutes(" + dip + ")", x -> x.dipMinutes(dip));
                changesNothing("dipVarnish(" + dip + ")", x -> x.dipVarnish(dip));
            }
        }
        if (prints == 0) {
            none("bestState()", x -> x.bestState());
        }
    }

    /** Questions that are answered, also those that show obstacles or an empty plate. */
    private void questions() {
        changesNothing("lines()", x -> x.lines());
        changesNothing("varnished()", x -> x.varnished());
        changesNothing("meanDepthBits()", x -> x.meanDepthBits());
        changesNothing("prints()", x -> x.prints());
        changesNothing("orders(0)", x -> x.orders(0));
        changesNothing("orders of all", x -> x.orders(Plates.allOf(prints)));
        changesNothing("bestState()", x -> x.bestState());
        changesNothing("obstacles()", x -> x.obstacles());
        changesNothing("digest()", x -> x.digest());
        for (int code = -5; code <= -2; code++) {
            int asked = code;
            changesNothing("errorCount(" + code + ")", x -> x.errorCount(asked));
        }
        if (lines > 0) {
            changesNothing("depth(last)", x -> x.depth(lines - 1));
        }
        if (prints > 0) {
            changesNothing("stateOf(last)", x -> x.stateOf(prints - 1));
            changesNothing("mayPrecede(0, last)", x -> x.mayPrecede(0, prints - 1));
        }
        if (lines > 0 && prints > 0) {
            changesNothing("tone(last, last)", x -> x.tone(prints - 1, lines - 1));
        }
    }

    private void all() {
        before.dueDigests(CHECK, name);
        baths();
        setsOfLines();
        burnishing();
        numbersOfLinesAndPrints();
        setsOfPrints();
        targetsDipsAndCodes();
        noRoom();
        plan();
        questions();
    }

    private static void on(String name, Recipe recipe) {
        new RefusalTest(name, recipe).all();
    }

    public static void main(String[] args) {
        on("a new plate", EtchedPlate::new);
        on("lines and nothing saved", () -> Plates.aimed(Plates.withNothingSaved(Plates.withLines(2)), 3, 0));
        on("ten lines without prints", () -> Plates.withLines(10));
        on("ten lines, a print and no work since", () -> Plates.pulled(Plates.withLines(10), 1));
        on("twelve prints without lines", () -> Plates.pulled(new EtchedPlate(), 12));
        on("a line, a print and work since", () -> {
            EtchedPlate x = Plates.pulled(Plates.withLines(1), 1);
            x.dip(5);
            return x;
        });
        on("two lines, three prints and no work since", () -> {
            EtchedPlate x = Plates.pulled(Plates.withDepths(20, 35), 3);
            x.varnish(2);
            return Plates.aimed(x, 4, 6);
        });
        on("no plan", () -> Plates.aimed(Plates.pulled(Plates.withDepths(20, 0, 31), 2), 1, 3, 3));
        on("a full plate", Plates::full);
        on("a full plate without a plan", () -> Plates.aimed(Plates.full(), 9, 0, 0));
        on("a full plate with nothing saved", () -> Plates.withNothingSaved(Plates.full()));
        on("a plate after errors of each code", () -> {
            EtchedPlate x = new EtchedPlate();
            x.undo();
            Plates.pulled(x, 14);
            x.draw();
            x.dip(30);
            x.dips();
            x.depth(1);
            return x;
        });
        CHECK.end();
    }
}
