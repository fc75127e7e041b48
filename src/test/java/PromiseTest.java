/** Each promise of the document by itself: ordinary inputs, the edges, and wrong inputs. */
public final class PromiseTest {
    private static final int MIN = Integer.MIN_VALUE;
    private static final int MAX = Integer.MAX_VALUE;
    private static final Check CHECK = new Check("PromiseTest");

    private static void due(String call, long got, long want) {
        CHECK.due(call, got, want);
    }

    /** A plate with so many lines, drawn and nothing more. */
    private static EtchedPlate withLines(int count) {
        EtchedPlate x = new EtchedPlate();
        for (int k = 0; k < count; k++) {
            due("draw()", x.draw(), k);
        }
        return x;
    }

    /** A plate whose lines have these depths, with strength 1 and no varnish. */
    private static EtchedPlate withDepths(int... depths) {
        EtchedPlate x = Plates.withDepths(depths);
        for (int k = 0; k < depths.length; k++) {
            due("depth(" + k + ")", x.depth(k), depths[k]);
        }
        return x;
    }

    private static void examples() {
        CHECK.part("example 1");
        EtchedPlate x = withLines(2);
        due("dip(6)", x.dip(6), 2);
        due("varnish(1)", x.varnish(1), 1);
        due("dip(10)", x.dip(10), 1);
        due("depth(0)", x.depth(0), 12);
        due("depth(1)", x.depth(1), 32);
        due("pull()", x.pull(), 0);
        due("tone(0, 1)", x.tone(0, 1), 3);
        due("stateOf(0)", x.stateOf(0), 1);

        CHECK.part("example 2");
        x = withLines(2);
        due("setTarget(0, 2)", x.setTarget(0, 2), 0);
        due("setTarget(1, 4)", x.setTarget(1, 4), 0);
        due("dips()", x.dips(), 2);
        due("dipMinutes(0)", x.dipMinutes(0), 14);
        due("dipVarnish(0)", x.dipVarnish(0), 0);
        due("dipMinutes(1)", x.dipMinutes(1), 10);
        due("dipVarnish(1)", x.dipVarnish(1), 1);

        CHECK.part("example 3");
        x = withLines(1);
        due("dip(50)", x.dip(50), 1);
        due("setTarget(0, 3)", x.setTarget(0, 3), 0);
        due("dips()", x.dips(), -3);
        due("obstacles()", x.obstacles(), 1);

        CHECK.part("example 4");
        x = withLines(1);
        due("pull()", x.pull(), 0);
        due("dip(20)", x.dip(20), 1);
        due("pull()", x.pull(), 1);
        due("stateOf(1)", x.stateOf(1), 2);
        due("mayPrecede(0, 1)", x.mayPrecede(0, 1), 1);
        due("mayPrecede(1, 0)", x.mayPrecede(1, 0), 0);
        due("orders(3)", x.orders(3), 1);

        CHECK.part("example 5");
        x = new EtchedPlate();
        due("burnish(0, 1)", x.burnish(0, 1), -2);
        due("dip(100)", x.dip(100), -2);
        due("undo()", x.undo(), -5);
    }

    private static void newObject() {
        CHECK.part("promise 1");
        EtchedPlate x = new EtchedPlate();
        due("lines()", x.lines(), 0);
        due("prints()", x.prints(), 0);
        due("varnished()", x.varnished(), 0);
        for (int code = -5; code <= -2; code++) {
            due("errorCount(" + code + ")", x.errorCount(code), 0);
        }
        due("undo()", x.undo(), -5);
        x = new EtchedPlate();
        for (int line = 0; line < 10; line++) {
            due("setTarget(" + line + ", 9)", x.setTarget(line, 9), 0);
        }
        due("setStrength(4)", x.setStrength(4), 2);
        due("pull()", x.pull(), 0);
        due("stateOf(0)", x.stateOf(0), 1);
        // counters 0 0 0 0, strength 2, lines 0, varnish 0, prints 0, obstacles 0, dips 0, orders 1, saved 0
        int[] values = {0, 0, 0, 0, 2, 0, 0, 0, 0, 0, 1, 0};
        due("digest()", new EtchedPlate().digest(), Picture.hash(values));
        EtchedPlate first = withLines(3);
        due("another plate's lines()", new EtchedPlate().lines(), 0);
        due("lines()", first.lines(), 3);
    }

    private static void draw() {
        CHECK.part("promise 2");
        EtchedPlate x = withLines(10);
        due("draw()", x.draw(), -4);
        due("errorCount(-4)", x.errorCount(-4), 1);
        due("lines()", x.lines(), 10);
        due("undo()", x.undo(), 4);
        due("lines()", x.lines(), 9);
        due("draw()", x.draw(), 9);

        x = withLines(1);
        x.dip(20);
        x.varnish(1);
        due("draw()", x.draw(), 1);
        due("depth(1)", x.depth(1), 0);
        due("varnished()", x.varnished(), 1);
        x.dip(3);
        due("depth(1)", x.depth(1), 6);
        due("undo()", x.undo(), 4);
        due("undo()", x.undo(), 3);
        due("lines()", x.lines(), 1);
        due("draw()", x.draw(), 1);
        due("depth of a line drawn again", x.depth(1), 0);

        x = new EtchedPlate();
        x.draw();
        x.dip(10);
        x.varnish(1);
        x.undo();
        x.undo();
        x.undo();
        due("draw()", x.draw(), 0);
        due("depth of a line drawn again", x.depth(0), 0);
        due("varnished()", x.varnished(), 0);
    }

    private static void setStrength() {
        CHECK.part("promise 3");
        EtchedPlate x = withLines(1);
        int previous = 2;
        for (int strength = 1; strength <= 5; strength++) {
            due("setStrength(" + strength + ")", x.setStrength(strength), previous);
            x.burnish(0, 99);
            x.dip(7);
            due("depth(0)", x.depth(0), 7 * strength);
            previous = strength;
        }
        int[] wrong = {0, 6, -1, MIN, MAX};
        for (int strength : wrong) {
            due("setStrength(" + strength + ")", x.setStrength(strength), -2);
        }
        due("errorCount(-2)", x.errorCount(-2), wrong.length);
        due("setStrength(5)", x.setStrength(5), 5);
        due("setStrength(3)", x.setStrength(3), 5);
        due("undo()", x.undo(), 4);
        due("undo()", x.undo(), 3);
        due("setStrength(1)", x.setStrength(1), 5);
    }

    private static void dip() {
        CHECK.part("promise 4");
        EtchedPlate x = withLines(3);
        due("dip(0)", x.dip(0), 0);
        due("undo() after dip(0)", x.undo(), 3);
        due("dip(1)", x.dip(1), 3);
        due("depth(2)", x.depth(2), 2);
        x.varnish(2);
        due("dip(48)", x.dip(48), 2);
        due("depth(0)", x.depth(0), 98);
        due("depth(1)", x.depth(1), 2);
        due("dip(1)", x.dip(1), 2);
        due("depth(0)", x.depth(0), 99);
        due("dip(1) at the greatest depth", x.dip(1), 0);
        x.clean();
        x.setStrength(5);
        due("dip(99)", x.dip(99), 1);
        due("depth(1)", x.depth(1), 99);
        int[] wrong = {-1, 100, MIN, MAX};
        for (int minutes : wrong) {
            due("dip(" + minutes + ")", x.dip(minutes), -2);
        }
        due("errorCount(-2)", x.errorCount(-2), wrong.length);
        due("dip(99) without lines", new EtchedPlate().dip(99), 0);
    }

    private static void varnish() {
        CHECK.part("promise 5");
        EtchedPlate x = withLines(4);
        due("varnish(0)", x.varnish(0), 0);
        due("varnish(5)", x.varnish(5), 2);
        due("varnished()", x.varnished(), 5);
        due("varnish(5)", x.varnish(5), 2);
        due("varnish(6)", x.varnish(6), 3);
        due("varnished()", x.varnished(), 7);
        int[] wrong = {16, 17, 31, -1, MIN, MAX, 1 << 30};
        for (int lines : wrong) {
            due("varnish(" + lines + ")", x.varnish(lines), -2);
        }
        due("varnished()", x.varnished(), 7);
        due("errorCount(-2)", x.errorCount(-2), wrong.length);
        due("undo()", x.undo(), 4);
        due("varnished()", x.varnished(), 5);
        due("undo()", x.undo(), 3);
        due("varnished()", x.varnished(), 5);
        due("undo()", x.undo(), 2);
        due("varnished()", x.varnished(), 0);
        x = withLines(10);
        due("varnish(1023)", x.varnish(1023), 10);
        due("varnish(1024)", x.varnish(1024), -2);
        due("varnish(1) without lines", new EtchedPlate().varnish(1), -2);
        due("varnish(0) without lines", new EtchedPlate().varnish(0), 0);
    }

    private static void clean() {
        CHECK.part("promise 6");
        EtchedPlate x = withLines(4);
        due("clean()", x.clean(), 0);
        x.varnish(13);
        due("clean()", x.clean(), 3);
        due("varnished()", x.varnished(), 0);
        due("dip(1)", x.dip(1), 4);
        due("undo()", x.undo(), 4);
        due("undo()", x.undo(), 3);
        due("varnished()", x.varnished(), 13);
        x = new EtchedPlate();
        due("clean()", x.clean(), 0);
        due("undo()", x.undo(), 0);
    }

    private static void burnish() {
        CHECK.part("promise 7");
        EtchedPlate x = withDepths(50, 99);
        due("burnish(0, 1)", x.burnish(0, 1), 49);
        due("depth(0)", x.depth(0), 49);
        due("depth(1)", x.depth(1), 99);
        due("burnish(0, 49)", x.burnish(0, 49), 0);
        due("burnish(0, 1) at depth 0", x.burnish(0, 1), 0);
        x.varnish(2);
        due("burnish(1, 98) under varnish", x.burnish(1, 98), 1);
        due("burnish(1, 99)", x.burnish(1, 99), 0);
        due("varnished()", x.varnished(), 2);
        int[] wrongAmounts = {0, 100, -1, MIN, MAX};
        for (int amount : wrongAmounts) {
            due("burnish(0, " + amount + ")", x.burnish(0, amount), -2);
        }
        int[] wrongLines = {2, -1, 10, MIN, MAX};
        for (int line : wrongLines) {
            due("burnish(" + line + ", 1)", x.burnish(line, 1), -2);
        }
        due("errorCount(-2)", x.errorCount(-2), wrongAmounts.length + wrongLines.length);
        due("undo()", x.undo(), 4);
        due("depth(1)", x.depth(1), 1);
    }

    private static void pull() {
        CHECK.part("promise 8");
        EtchedPlate x = withDepths(50, 1, 0, 30);
        x.varnish(8);
        for (int k = 0; k < 12; k++) {
            due("pull()", x.pull(), k);
            due("depth(0) after print " + k, x.depth(0), 50 - (k + 1) / 3);
            due("depth(1) after print " + k, x.depth(1), k < 2 ? 1 : 0);
            due("depth(2) after print " + k, x.depth(2), 0);
            due("depth(3) after print " + k, x.depth(3), 30 - (k + 1) / 3);
        }
        due("pull()", x.pull(), -4);
        due("errorCount(-4)", x.errorCount(-4), 1);
        due("depth(0)", x.depth(0), 46);
        due("prints()", x.prints(), 12);
        due("tone before the wear", x.tone(2, 0), 5);
        due("tone after the wear", x.tone(3, 0), 4);
        due("undo()", x.undo(), 4);
        due("prints()", x.prints(), 11);
        due("depth(0)", x.depth(0), 47);
        due("pull()", x.pull(), 11);
        due("depth(0)", x.depth(0), 46);
    }

    private static void states() {
        CHECK.part("promises 8 and 14: state numbers");
        EtchedPlate x = new EtchedPlate();
        x.draw();
        x.dip(1);
        x.pull();
        due("first print after work", x.stateOf(0), 1);
        x.pull();
        due("no work", x.stateOf(1), 1);
        x.dip(0);
        x.varnish(1);
        x.clean();
        x.setStrength(4);
        x.pull();
        due("no work, but wear", x.stateOf(2), 1);
        x.pull();
        due("wear is no work", x.stateOf(3), 1);
        x.burnish(0, 99);
        x.burnish(0, 1);
        x.pull();
        due("burnished twice", x.stateOf(4), 2);
        x.draw();
        x.pull();
        due("drawn", x.stateOf(5), 3);
        x.varnish(3);
        x.dip(1);
        x.pull();
        due("dipped under varnish", x.stateOf(6), 4);
        x.dip(5);
        x.undo();
        x.pull();
        due("work that was undone", x.stateOf(7), 4);
        x.burnish(1, 1);
        x.pull();
        x.undo();
        x.pull();
        due("pulled again after undo", x.stateOf(8), 5);
        due("an old print", x.stateOf(0), 1);
        x = new EtchedPlate();
        x.pull();
        x.dip(1);
        x.pull();
        due("dipped without lines", x.stateOf(1), 2);
        x.undo();
        x.undo();
        x.undo();
        x.draw();
        x.pull();
        due("the first print once more", x.stateOf(0), 1);
    }

    private static void linesAndDepth() {
        CHECK.part("promise 9");
        EtchedPlate x = new EtchedPlate();
        for (int k = 0; k < 10; k++) {
            due("lines()", x.lines(), k);
            x.draw();
        }
        due("lines()", x.lines(), 10);
        x.draw();
        due("lines()", x.lines(), 10);
        CHECK.part("promise 10");
        x = withDepths(0, 99, 42);
        int[] wrong = {3, -1, 9, 10, MIN, MAX};
        for (int line : wrong) {
            due("depth(" + line + ")", x.depth(line), -2);
        }
        due("errorCount(-2)", x.errorCount(-2), wrong.length);
        CHECK.part("promise 11");
        due("varnished()", x.varnished(), 0);
        x.varnish(4);
        x.varnish(1);
        due("varnished()", x.varnished(), 5);
    }

    private static void meanDepthBits() {
        CHECK.part("promise 12");
        due("no lines", new EtchedPlate().meanDepthBits(), Float.floatToIntBits(0.0f));
        due("depth 0", withDepths(0).meanDepthBits(), 0);
        due("depth 1", withDepths(1).meanDepthBits(), Float.floatToIntBits(1.0f));
        for (int count = 1; count <= 10; count++) {
            EtchedPlate x = withLines(count);
            x.setStrength(1);
            int sum = 0;
            for (int k = 0; k < 60; k++) {
                due("sum " + sum + " of " + count, x.meanDepthBits(), Float.floatToIntBits((float) sum / (float) count));
                int line = k % count;
                x.clean();
                x.varnish((1 << count) - 1 - (1 << line));
                int minutes = k * 7 % 5 + k % 2;
                int before = x.depth(line);
                x.dip(minutes);
                sum += x.depth(line) - before;
            }
        }
    }

    private static void printsAndTones() {
        CHECK.part("promise 13");
        EtchedPlate x = withDepths(9, 10, 99);
        due("prints()", x.prints(), 0);
        due("pull()", x.pull(), 0);
        due("prints()", x.prints(), 1);
        Plates.pulled(x, 12);
        due("prints()", x.prints(), 12);
        x.undo();
        due("prints()", x.prints(), 11);
        CHECK.part("promise 14");
        int[] wrong = {11, 12, -1, MIN, MAX};
        for (int print : wrong) {
            due("stateOf(" + print + ")", x.stateOf(print), -2);
        }
        due("errorCount(-2)", x.errorCount(-2), wrong.length);
        CHECK.part("promise 15");
        due("tone(0, 0)", x.tone(0, 0), 0);
        due("tone(0, 1)", x.tone(0, 1), 1);
        due("tone(0, 2)", x.tone(0, 2), 9);
        due("tone(3, 1)", x.tone(3, 1), 0);
        due("tone(0, 3)", x.tone(0, 3), -2);
        x.draw();
        due("tone of a later line", x.tone(0, 3), 0);
        x.dip(90);
        due("tone of a later line", x.tone(10, 3), 0);
        x.pull();
        due("tone(11, 3)", x.tone(11, 3), 9);
        int[] wrongLines = {4, -1, 10, MIN, MAX};
        for (int line : wrongLines) {
            due("tone(0, " + line + ")", x.tone(0, line), -2);
        }
        int[] wrongPrints = {12, -1, MIN, MAX};
        for (int print : wrongPrints) {
            due("tone(" + print + ", 0)", x.tone(print, 0), -2);
        }
        due("tone(-1, -1) is one error", x.tone(-1, -1), -2);
        due("errorCount(-2)", x.errorCount(-2), wrong.length + 1 + wrongLines.length + wrongPrints.length + 1);
    }

    /** Prints with the tones 0 0, 1 0, 0 1, 1 1 and 1 1. */
    private static EtchedPlate withSquare() {
        EtchedPlate x = withLines(2);
        x.setStrength(1);
        x.pull();
        x.varnish(2);
        x.dip(15);
        x.pull();
        x.clean();
        x.burnish(0, 15);
        x.varnish(1);
        x.dip(15);
        x.pull();
        x.clean();
        x.varnish(2);
        x.dip(15);
        x.pull();
        x.pull();
        return x;
    }

    private static void mayPrecede() {
        CHECK.part("promise 16");
        EtchedPlate x = withSquare();
        int[][] may = {{1, 1, 1, 1, 1}, {0, 1, 0, 1, 1}, {0, 0, 1, 1, 1}, {0, 0, 0, 1, 1}, {0, 0, 0, 1, 1}};
        for (int i = 0; i < 5; i++) {
            for (int j = 0; j < 5; j++) {
                due("mayPrecede(" + i + ", " + j + ")", x.mayPrecede(i, j), may[i][j]);
            }
        }
        int[] wrong = {5, -1, 12, MIN, MAX};
        for (int print : wrong) {
            due("mayPrecede(0, " + print + ")", x.mayPrecede(0, print), -2);
            due("mayPrecede(" + print + ", 0)", x.mayPrecede(print, 0), -2);
            due("mayPrecede(" + print + ", same)", x.mayPrecede(print, print), -2);
        }
        due("errorCount(-2)", x.errorCount(-2), 3 * wrong.length);
        x = new EtchedPlate();
        Plates.pulled(x, 2);
        due("without lines", x.mayPrecede(1, 0), 1);
        x = new EtchedPlate();
        Plates.pulled(x, 1);
        x.draw();
        x.dip(20);
        Plates.pulled(x, 1);
        due("a later line", x.mayPrecede(0, 1), 1);
        due("a later line", x.mayPrecede(1, 0), 0);
    }

    private static void orders() {
        CHECK.part("promise 17");
        EtchedPlate x = withSquare();
        int[] some = {0, 1, 3, 6, 7, 9, 11, 13, 15, 24, 25, 27, 29, 31};
        int[] want = {1, 1, 1, 0, 0, 1, 1, 1, 0, 2, 2, 2, 2, 0};
        for (int k = 0; k < some.length; k++) {
            due("orders(" + some[k] + ")", x.orders(some[k]), want[k]);
        }
        int[] wrong = {32, 33, 63, -1, MIN, MAX, 4096};
        for (int prints : wrong) {
            due("orders(" + prints + ")", x.orders(prints), -2);
        }
        due("errorCount(-2)", x.errorCount(-2), wrong.length);
        due("orders(0) without prints", new EtchedPlate().orders(0), 1);
        due("orders(1) without prints", new EtchedPlate().orders(1), -2);

        x = new EtchedPlate();
        int factorial = 1;
        for (int n = 1; n <= 12; n++) {
            x.pull();
            factorial *= n;
            due("orders of " + n + " equal prints", x.orders((1 << n) - 1), factorial);
        }
        due("orders(4096)", x.orders(4096), -2);
        due("orders(MIN)", x.orders(MIN), -2);

        x = withLines(1);
        for (int n = 0; n < 4; n++) {
            Plates.pulled(x, 3);
            x.dip(10);
        }
        due("four states of three prints", x.orders(4095), 6 * 6 * 6 * 6);
        due("across the states", x.orders(0b100_010_001_011), 2);
    }

    private static void bestState() {
        CHECK.part("promise 18");
        EtchedPlate x = new EtchedPlate();
        due("no prints", x.bestState(), -1);
        for (int code = -5; code <= -2; code++) {
            due("NONE is not counted: errorCount(" + code + ")", x.errorCount(code), 0);
        }
        x.pull();
        x.dip(1);
        x.pull();
        due("no lines", x.bestState(), 1);
        x = withSquare();
        int[][] states = {{1, 3}, {2, 4}};
        for (int first = 0; first < 2; first++) {
            for (int second = 0; second < 2; second++) {
                x.setTarget(0, first);
                x.setTarget(1, second);
                due("bestState() for " + first + " " + second, x.bestState(), states[first][second]);
            }
        }
        x.setTarget(2, 9);
        due("a target of no line", x.bestState(), 4);
        x.draw();
        due("a target of a later line", x.bestState(), 4);
        x = withDepths(30);
        x.pull();
        x.dip(20);
        x.pull();
        x.setTarget(0, 4);
        due("a tie", x.bestState(), 1);
        x.setTarget(0, 5);
        due("the later print", x.bestState(), 2);
        x.setTarget(0, 9);
        due("the later print", x.bestState(), 2);
    }

    private static void setTarget() {
        CHECK.part("promise 19");
        EtchedPlate x = new EtchedPlate();
        for (int line = 0; line < 10; line++) {
            due("setTarget(" + line + ", 9)", x.setTarget(line, 9), 0);
            due("setTarget(" + line + ")", x.setTarget(line, 9 - line), 9);
            due("setTarget(" + line + ", 0)", x.setTarget(line, 0), 9 - line);
        }
        int[] wrongLines = {-1, 10, MIN, MAX};
        int[] wrongTones = {-1, 10, MIN, MAX};
        for (int line : wrongLines) {
            due("setTarget(" + line + ", 0)", x.setTarget(line, 0), -2);
        }
        for (int tone : wrongTones) {
            due("setTarget(0, " + tone + ")", x.setTarget(0, tone), -2);
        }
        due("setTarget(-1, -1)", x.setTarget(-1, -1), -2);
        due("errorCount(-2)", x.errorCount(-2), 9);
        due("setTarget is not undoable", x.undo(), -5);
        x.draw();
        x.setTarget(0, 7);
        x.undo();
        due("undo leaves the targets", x.setTarget(0, 1), 7);
    }

    private static void plan(EtchedPlate x, int... minutesAndVarnish) {
        Plans.due(CHECK, x, minutesAndVarnish);
        due("errorCount(-3)", x.errorCount(-3), 0);
    }

    private static void plans() {
        CHECK.part("promises 20 to 22");
        plan(new EtchedPlate());
        EtchedPlate x = withDepths(0, 0, 0);
        plan(x);
        Plates.aimed(x, 9, 0, 0);
        plan(x, 99, 0b110);
        Plates.aimed(x, 1, 1, 1);
        plan(x, 19, 0);
        Plates.aimed(x, 3, 1, 2);
        plan(x, 19, 0, 10, 0b010, 10, 0b110);

        x = withDepths(0, 5, 9, 10, 19);
        Plates.aimed(x, 1, 1, 1, 1, 1);
        // 10 to 19, 5 to 14, 1 to 10, and two that allow 0: 10 serves the first three
        plan(x, 10, 0b11000);
        x = withDepths(0, 5, 12, 20);
        Plates.aimed(x, 1, 2, 2, 3);
        // 10 to 19, 15 to 24, 8 to 17, 10 to 19: 17 serves all
        plan(x, 17, 0);
        x = withDepths(0, 8, 17);
        Plates.aimed(x, 4, 3, 2);
        // 40 to 49, 22 to 31, 3 to 12
        plan(x, 12, 0, 19, 0b100, 18, 0b110);
        x.setStrength(5);
        // 8 to 9, 5 to 6, 1 to 2
        plan(x, 2, 0, 4, 0b100, 3, 0b110);
        x.setStrength(4);
        // 10 to 12, 6 to 7, 1 to 3
        plan(x, 3, 0, 4, 0b100, 5, 0b110);

        x = withDepths(0, 8);
        Plates.aimed(x, 0, 0);
        x.varnish(3);
        plan(x);
        Plates.aimed(x, 1, 1);
        // 10 to 19, 2 to 11: varnish that is there already plays no part
        plan(x, 11, 0);
        x = withDepths(3, 9);
        Plates.aimed(x, 1, 0);
        // line 1 allows 0 only, which is its greatest too
        plan(x, 16, 0b10);
        x.setTarget(2, 9);
        plan(x, 16, 0b10);

        x = withDepths(0, 0);
        Plates.aimed(x, 1, 2);
        // the line that allows two totals uses the least of them: 10 to 19 and 15 to 24
        x.varnish(1);
        x.dip(5);
        plan(x, 19, 0);
    }

    private static void leastTotalIsUsed() {
        CHECK.part("promise 22: the least total");
        // line 0 allows 20 to 29, line 1 30 to 39, line 2 22 to 31: 29 serves 0 and 2
        EtchedPlate x = withDepths(0, 0, 8);
        Plates.aimed(x, 2, 3, 3);
        plan(x, 29, 0, 10, 0b101);
        // 1 to 4, 5 to 7, 4 to 7: line 2 allows both totals, 4 and 7, and uses 4
        x = withDepths(7, 7, 8);
        x.setStrength(3);
        Plates.aimed(x, 1, 2, 2);
        plan(x, 4, 0, 3, 0b101);
        // the same with the lines the other way round
        x = withDepths(8, 7, 7);
        x.setStrength(3);
        Plates.aimed(x, 2, 2, 1);
        plan(x, 4, 0, 3, 0b101);
    }

    private static void impossiblePlans() {
        CHECK.part("promises 20 to 23: no plan");
        EtchedPlate x = withDepths(20, 19, 0);
        Plates.aimed(x, 1, 1, 5);
        due("obstacles()", x.obstacles(), 1);
        due("dips()", x.dips(), -3);
        due("dipMinutes(0)", x.dipMinutes(0), -3);
        due("dipVarnish(0)", x.dipVarnish(0), -3);
        due("dipMinutes(MAX)", x.dipMinutes(MAX), -3);
        due("dipVarnish(MAX)", x.dipVarnish(MAX), -3);
        due("errorCount(-3)", x.errorCount(-3), 5);
        due("dipMinutes(-1)", x.dipMinutes(-1), -2);
        due("dipVarnish(MIN)", x.dipVarnish(MIN), -2);
        due("errorCount(-2)", x.errorCount(-2), 2);
        due("errorCount(-3)", x.errorCount(-3), 5);
        due("obstacles() is no error", x.errorCount(-3), 5);
        x.digest();
        due("digest() is no error", x.errorCount(-3), 5);
        x.burnish(0, 1);
        due("obstacles()", x.obstacles(), 0);
        due("dips()", x.dips(), 1);
        Plates.aimed(x, 0, 0, 0);
        due("obstacles()", x.obstacles(), 3);
        x.undo();
        due("obstacles()", x.obstacles(), 3);
        due("obstacles() without lines", new EtchedPlate().obstacles(), 0);
        x = withDepths(20, 30, 29);
        Plates.aimed(x, 1, 2, 2);
        for (int strength = 1; strength <= 5; strength++) {
            x.setStrength(strength);
            due("obstacles() just beyond the tone", x.obstacles(), 3);
        }
        x = withLines(10);
        x.dip(99);
        due("obstacles()", x.obstacles(), 1023);
    }

    /** Following the plan gives the tones, and fewer totals would not do. */
    private static void plansWork() {
        CHECK.part("promises 20 to 22: the plan is followed");
        for (int k = 0; k < 400; k++) {
            int[] depths = {k * 7 % 40, k * 13 % 45, k * 29 % 50};
            int[] tones = {depths[0] / 10 + k % 5, depths[1] / 10 + k / 5 % 4, depths[2] / 10 + k / 3 % 4};
            int strength = k % 5 + 1;
            EtchedPlate x = withDepths(depths);
            x.setStrength(strength);
            Plates.aimed(x, tones);
            int count = x.dips();
            CHECK.holds("the fewest totals are " + count, count == fewestTotals(depths, tones, strength));
            int[] minutes = new int[count];
            int[] sets = new int[count];
            for (int dip = 0; dip < count; dip++) {
                minutes[dip] = x.dipMinutes(dip);
                sets[dip] = x.dipVarnish(dip);
            }
            for (int dip = 0; dip < count; dip++) {
                x.varnish(sets[dip]);
                x.dip(minutes[dip]);
                due("varnished()", x.varnished(), sets[dip]);
            }
            x.pull();
            for (int line = 0; line < 3; line++) {
                due("tone(0, " + line + ")", x.tone(0, line), tones[line]);
            }
        }
    }

    /** How many different positive totals three lines need at least, found by trying all. */
    private static int fewestTotals(int[] depths, int[] tones, int strength) {
        int best = 3;
        for (int first = 0; first <= 99; first++) {
            for (int second = 0; second <= first; second++) {
                boolean serve = true;
                for (int line = 0; line < 3; line++) {
                    serve &= Plans.allows(depths[line], tones[line], strength, 0)
                        || Plans.allows(depths[line], tones[line], strength, first)
                        || Plans.allows(depths[line], tones[line], strength, second);
                }
                int count = (first > 0 ? 1 : 0) + (second > 0 && second != first ? 1 : 0);
                if (serve && count < best) {
                    best = count;
                }
            }
        }
        return best;
    }

    private static void undo() {
        CHECK.part("promise 24");
        EtchedPlate x = new EtchedPlate();
        due("undo()", x.undo(), -5);
        due("errorCount(-5)", x.errorCount(-5), 1);
        x = withLines(7);
        for (int left = 4; left >= 0; left--) {
            due("undo()", x.undo(), left);
            due("lines()", x.lines(), left + 2);
        }
        due("undo()", x.undo(), -5);
        due("lines()", x.lines(), 2);
        due("draw()", x.draw(), 2);
        due("undo()", x.undo(), 0);

        x = withLines(1);
        x.depth(5);
        x.dip(100);
        x.setTarget(0, 5);
        due("undo()", x.undo(), 0);
        due("undo leaves the counters", x.errorCount(-2), 2);
        due("undo leaves the targets", x.setTarget(0, 5), 5);

        x = withLines(2);
        x.dip(10);
        x.dip(-1);
        x.varnish(4);
        x.setStrength(9);
        x.burnish(2, 1);
        x.burnish(1, 0);
        due("calls that fail save nothing", x.undo(), 2);
        due("depth(0)", x.depth(0), 0);
        queriesSaveNothing();
        unchangedStatesAreSaved();
        digestComesBack();
    }

    private static void queriesSaveNothing() {
        EtchedPlate x = withLines(1);
        x.pull();
        x.lines();
        x.depth(0);
        x.varnished();
        x.meanDepthBits();
        x.prints();
        x.stateOf(0);
        x.tone(0, 0);
        x.mayPrecede(0, 0);
        x.orders(1);
        x.bestState();
        x.setTarget(0, 1);
        x.dips();
        x.dipMinutes(0);
        x.dipVarnish(0);
        x.obstacles();
        x.errorCount(-2);
        x.digest();
        due("questions save nothing", x.undo(), 1);
        due("prints()", x.prints(), 0);
    }

    private static void unchangedStatesAreSaved() {
        EtchedPlate x = new EtchedPlate();
        x.clean();
        x.varnish(0);
        x.dip(0);
        x.setStrength(2);
        x.dip(9);
        for (int left = 4; left >= 0; left--) {
            due("calls that change nothing are saved", x.undo(), left);
        }
    }

    /** Each step's digest comes back when the step is undone, the number of saved states apart. */
    private static void digestComesBack() {
        EtchedPlate x = withSquare();
        long[] before = new long[7];
        before[0] = x.digest();
        x.draw();
        before[1] = x.digest();
        x.dip(7);
        before[2] = x.digest();
        x.setStrength(5);
        before[3] = x.digest();
        x.pull();
        before[4] = x.digest();
        x.burnish(1, 3);
        for (int k = 4; k >= 0; k--) {
            int left = x.undo();
            due("undo()", left, k);
            due("digest()", x.digest() - left, before[k] - 5);
        }
    }

    private static void errorCount() {
        CHECK.part("promise 25");
        EtchedPlate x = new EtchedPlate();
        int[] wrong = {-1, -6, 0, 1, 2, 5, MIN, MAX};
        for (int code : wrong) {
            due("errorCount(" + code + ")", x.errorCount(code), -2);
        }
        due("errorCount(-2)", x.errorCount(-2), wrong.length);
        x.undo();
        x.undo();
        x.undo();
        due("errorCount(-5)", x.errorCount(-5), 3);
        for (int k = 0; k < 12; k++) {
            x.draw();
        }
        for (int k = 0; k < 13; k++) {
            x.pull();
        }
        due("errorCount(-4)", x.errorCount(-4), 3);
        x.dip(99);
        for (int k = 0; k < 4; k++) {
            x.dips();
        }
        due("errorCount(-3)", x.errorCount(-3), 4);
        due("errorCount(-2)", x.errorCount(-2), wrong.length);
        due("another object's errorCount(-3)", new EtchedPlate().errorCount(-3), 0);
    }

    private static void digest() {
        CHECK.part("promise 26");
        EtchedPlate x = withLines(2);
        x.undo();
        x.undo();
        x.undo();
        x.draw();
        x.draw();
        x.setTarget(0, 2);
        x.setTarget(1, 4);
        x.setTarget(2, 8);
        x.depth(2);
        x.depth(2);
        // counters; strength; lines; depth and target of each; varnish; prints; obstacles; dips; orders; saved
        due("digest()", x.digest(), Picture.hash(2, 0, 0, 1, 2, 2, 0, 2, 0, 4, 0, 0, 0, 2, 14, 0, 10, 1, 1, 2));
        x.dip(8);
        x.pull();
        x.varnish(2);
        x.dip(10);
        x.pull();
        due("digest()", x.digest(),
            Picture.hash(2, 0, 0, 1, 2, 2, 36, 2, 16, 4, 2, 2, 1, 1, 1, 2, 3, 1, 1, 1, 5));
        x.dips();
        x.burnish(0, 10);
        x.pull();
        due("digest()", x.digest(),
            Picture.hash(2, 1, 0, 1, 2, 2, 25, 2, 15, 4, 2, 3, 1, 1, 1, 2, 3, 1, 3, 2, 1, 0, 1, 17, 1, 1, 5));
        due("the same digest()", x.digest(), x.digest());
    }

    public static void main(String[] args) {
        examples();
        newObject();
        draw();
        setStrength();
        dip();
        varnish();
        clean();
        burnish();
        pull();
        states();
        linesAndDepth();
        meanDepthBits();
        printsAndTones();
        mayPrecede();
        orders();
        bestState();
        setTarget();
        plans();
        leastTotalIsUsed();
        impossiblePlans();
        plansWork();
        undo();
        errorCount();
        digest();
        CHECK.end();
    }
}
