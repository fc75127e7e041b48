/** The edges that the document names for prints, states, wear and the order of prints: promises 8 and 13 to 18. */
public final class PrintEdgesTest {
    private static final Check CHECK = new Check("PrintEdgesTest");

    private static void due(String call, long got, long want) {
        CHECK.due(call, got, want);
    }

    private static void twelvePrints() {
        CHECK.part("\"At most 12 prints can be pulled; they are numbered from 0\"");
        EtchedPlate x = Plates.withDepths(55);
        for (int k = 0; k < 12; k++) {
            due("prints()", x.prints(), k);
            due("stateOf(" + k + ") before it is pulled", x.stateOf(k), -2);
            due("pull()", x.pull(), k);
            due("stateOf(" + k + ")", x.stateOf(k), 1);
        }
        due("prints()", x.prints(), 12);
        CHECK.part("\"FULL if 12 prints have been pulled\"");
        due("depth(0)", x.depth(0), 51);
        for (int k = 0; k < 3; k++) {
            due("pull()", x.pull(), -4);
        }
        due("errorCount(-4)", x.errorCount(-4), 3);
        due("errorCount(-2)", x.errorCount(-2), 12);
        due("no wear by a refused print", x.depth(0), 51);
        due("prints()", x.prints(), 12);
        due("stateOf(11)", x.stateOf(11), 1);
        due("stateOf(12)", x.stateOf(12), -2);
        due("undo()", x.undo(), 4);
        due("prints()", x.prints(), 11);
        due("stateOf(11)", x.stateOf(11), -2);
        due("tone(11, 0)", x.tone(11, 0), -2);
        due("depth(0)", x.depth(0), 52);
        due("pull() with room for one", x.pull(), 11);
        due("pull() with room for none", x.pull(), -4);
        due("errorCount(-4)", x.errorCount(-4), 4);
    }

    private static void wear() {
        CHECK.part("\"if the number of prints pulled so far (with this one) is divisible by 3\"");
        int[] start = {0, 1, 2, 3, 4, 5, 10, 98, 99, 50};
        EtchedPlate x = Plates.withDepths(start);
        x.varnish(0b1000000101);
        for (int pulled = 1; pulled <= 12; pulled++) {
            x.pull();
            for (int line = 0; line < 10; line++) {
                int want = Math.max(0, start[line] - pulled / 3);
                due("depth(" + line + ") after " + pulled + " prints", x.depth(line), want);
            }
        }
        due("varnished() after the wear", x.varnished(), 0b1000000101);
        CHECK.part("the wear's count goes back with undo");
        x = Plates.withDepths(50);
        Plates.pulled(x, 2);
        for (int k = 0; k < 4; k++) {
            x.pull();
            due("depth(0) after the third print", x.depth(0), 49);
            x.undo();
            due("depth(0) after undo", x.depth(0), 50);
            x.undo();
            x.pull();
            due("depth(0) after the second print", x.depth(0), 50);
        }
        CHECK.part("wear without lines");
        x = Plates.pulled(new EtchedPlate(), 12);
        due("prints()", x.prints(), 12);
        due("draw()", x.draw(), 0);
        due("depth(0)", x.depth(0), 0);
    }

    /** "records the tones that all lines have at that moment [..] and then wears the plate" */
    private static void tonesBeforeWear() {
        CHECK.part("\"records the tones that all lines have at that moment\"");
        EtchedPlate x = Plates.withDepths(10, 90, 11, 1);
        Plates.pulled(x, 3);
        due("tone(2, 0), pulled before the wear", x.tone(2, 0), 1);
        due("tone(2, 1), pulled before the wear", x.tone(2, 1), 9);
        due("depth(0)", x.depth(0), 9);
        due("depth(1)", x.depth(1), 89);
        x.pull();
        due("tone(3, 0), pulled after the wear", x.tone(3, 0), 0);
        due("tone(3, 1), pulled after the wear", x.tone(3, 1), 8);
        due("tone(3, 2)", x.tone(3, 2), 1);
        x.burnish(1, 99);
        x.dip(30);
        due("tone(0, 1) after more work", x.tone(0, 1), 9);
        due("tone(3, 0) after more work", x.tone(3, 0), 0);
    }

    private static void everyTone() {
        CHECK.part("\"its depth divided by 10, rounded down (0 to 9)\"");
        for (int depth = 0; depth <= 99; depth++) {
            EtchedPlate x = Plates.withDepths(depth, 99 - depth);
            x.pull();
            due("tone of depth " + depth, x.tone(0, 0), depth / 10);
            due("tone of depth " + (99 - depth), x.tone(0, 1), 9 - depth / 10);
        }
    }

    private static void linesDrawnLater() {
        CHECK.part("\"For a line that did not exist when a print was pulled, the print has tone 0\"");
        EtchedPlate x = new EtchedPlate();
        for (int k = 0; k < 10; k++) {
            x.pull();
            due("tone(" + k + ", " + k + ") before the line is drawn", x.tone(k, k), -2);
            x.draw();
            x.dip(50);
        }
        for (int print = 0; print < 10; print++) {
            for (int line = 0; line < 10; line++) {
                due("tone(" + print + ", " + line + ")", x.tone(print, line), line < print ? 9 : 0);
            }
        }
        due("errorCount(-2)", x.errorCount(-2), 10);
        CHECK.part("a print of a line that was undone with it");
        x = Plates.withLines(1);
        x.dip(50);
        x.pull();
        due("tone(0, 0)", x.tone(0, 0), 9);
        Plates.undone(x, 3);
        x.pull();
        x.draw();
        due("tone(0, 0) of a line that is new", x.tone(0, 0), 0);
    }

    private static void rangesOfPrintsAndLines() {
        for (int prints = 0; prints <= 12; prints++) {
            CHECK.part("\"OUT_OF_RANGE if there is no such print\", " + prints + " prints");
            EtchedPlate x = Plates.pulled(Plates.withDepths(40, 99), prints);
            due("stateOf(-1)", x.stateOf(-1), -2);
            due("stateOf(beyond)", x.stateOf(prints), -2);
            due("tone(-1, 0)", x.tone(-1, 0), -2);
            due("tone(beyond, 1)", x.tone(prints, 1), -2);
            due("mayPrecede(-1, 0)", x.mayPrecede(-1, 0), -2);
            due("mayPrecede(0, beyond)", x.mayPrecede(0, prints), -2);
            due("mayPrecede(beyond, 0)", x.mayPrecede(prints, 0), -2);
            due("mayPrecede(beyond, beyond)", x.mayPrecede(prints, prints), -2);
            due("errorCount(-2)", x.errorCount(-2), 8);
            if (prints > 0) {
                int last = prints - 1;
                due("stateOf(0)", x.stateOf(0), 1);
                due("stateOf(last)", x.stateOf(last), 1);
                due("tone(last, 1)", x.tone(last, 1), 9);
                due("tone(last, 2)", x.tone(last, 2), -2);
                due("tone(last, -1)", x.tone(last, -1), -2);
                due("mayPrecede(last, 0)", x.mayPrecede(last, 0), 1);
                due("mayPrecede(last, last)", x.mayPrecede(last, last), 1);
                due("errorCount(-2)", x.errorCount(-2), 10);
            }
        }
    }

    /** The state number of one more print, pulled from a plate with one print and then the given calls. */
    private static void stateAfter(String what, int want, Call... calls) {
        Recipe printed = () -> Plates.pulled(Plates.withDepths(50), 1);
        EtchedPlate x = printed.then(calls).make();
        int print = x.pull();
        due("the state after " + what, x.stateOf(print), want);
        due("the state of the next print", x.stateOf(x.pull()), want);
        due("the state of the first print", x.stateOf(0), 1);
    }

    private static void work() {
        CHECK.part("\"Drawing a line, dipping the plate with a positive number of minutes, and burnishing .. are work\"");
        stateAfter("draw()", 2, x -> x.draw());
        stateAfter("dip(1)", 2, x -> x.dip(1));
        stateAfter("dip(99)", 2, x -> x.dip(99));
        stateAfter("burnish(0, 1)", 2, x -> x.burnish(0, 1));
        stateAfter("burnish(0, 99)", 2, x -> x.burnish(0, 99));
        stateAfter("much work", 2, x -> x.draw(), x -> x.dip(1), x -> x.burnish(0, 1), x -> x.draw(), x -> x.dip(5));
        stateAfter("work and then no work", 2, x -> x.dip(1), x -> x.dip(0), x -> x.clean(), x -> x.varnish(1));
        stateAfter("a dip of varnished lines", 2, x -> x.varnish(1), x -> x.dip(1));
        stateAfter("a dip at depth 99", 2, x -> x.undo(), x -> x.dip(99), x -> x.pull(), x -> x.dip(1));
        stateAfter("burnishing at depth 0", 2, x -> x.undo(), x -> x.burnish(0, 99), x -> x.pull(), x -> x.burnish(0, 1));
        CHECK.part("\"Varnishing and cleaning are not work\"");
        stateAfter("nothing", 1);
        stateAfter("dip(0)", 1, x -> x.dip(0));
        stateAfter("varnish(1)", 1, x -> x.varnish(1));
        stateAfter("clean()", 1, x -> x.varnish(1), x -> x.clean());
        stateAfter("setStrength(5)", 1, x -> x.setStrength(5));
        stateAfter("setTarget(0, 9)", 1, x -> x.setTarget(0, 9));
        stateAfter("questions", 1, x -> x.dips(), x -> x.digest(), x -> x.orders(1), x -> x.bestState());
        CHECK.part("a call that is refused is no work");
        stateAfter("dip(-1) and dip(100)", 1, x -> x.dip(-1), x -> x.dip(100));
        stateAfter("burnish(0, 0) and burnish(1, 1)", 1, x -> x.burnish(0, 0), x -> x.burnish(1, 1), x -> x.burnish(0, 100));
        CHECK.part("work that is undone is no work");
        stateAfter("draw() and undo()", 1, x -> x.draw(), x -> x.undo());
        stateAfter("dip(1) and undo()", 1, x -> x.dip(1), x -> x.undo());
        stateAfter("burnish(0, 1) and undo()", 1, x -> x.burnish(0, 1), x -> x.undo());
        stateAfter("two dips and one undo()", 2, x -> x.dip(1), x -> x.dip(1), x -> x.undo());
        stateAfter("work, a print and undo()", 2, x -> x.dip(1), x -> x.pull(), x -> x.undo());
        stateAfter("a print, work, and undo() of both", 1, x -> x.pull(), x -> x.dip(1), x -> x.undo(), x -> x.undo());
        EtchedPlate full = Plates.pulled(Plates.withLines(10), 1);
        full.draw();
        due("the state after draw() on a full plate", full.stateOf(full.pull()), 1);
    }

    private static void wearIsNoWork() {
        CHECK.part("\"Wear is no work\"");
        EtchedPlate x = Plates.pulled(Plates.withDepths(99), 12);
        for (int print = 0; print < 12; print++) {
            due("stateOf(" + print + ")", x.stateOf(print), 1);
        }
    }

    private static void firstPrint() {
        CHECK.part("\"the first print of all has state number 1 in any case\"");
        Call[] calls = {x -> x.draw(), x -> x.dip(1), x -> x.burnish(0, 1), x -> x.clean()};
        Recipe recipe = EtchedPlate::new;
        for (Call call : calls) {
            due("the first print's state", recipe.then(x -> x.pull()).make().stateOf(0), 1);
            recipe = recipe.then(call);
        }
        EtchedPlate x = recipe.make();
        x.pull();
        due("stateOf(0)", x.stateOf(0), 1);
        x.undo();
        x.dip(5);
        x.pull();
        due("the first print, pulled again after undo", x.stateOf(0), 1);
        due("the second", x.stateOf(x.pull()), 1);
        CHECK.part("\"the state number first increases by 1\", before each print");
        x = Plates.withLines(1);
        for (int print = 0; print < 12; print++) {
            x.dip(1);
            due("stateOf(" + print + ")", x.stateOf(x.pull()), print + 1);
        }
        CHECK.part("the state number goes back with undo");
        for (int k = 0; k < 4; k++) {
            x.undo();
        }
        due("prints()", x.prints(), 10);
        due("the next state without work", x.stateOf(x.pull()), 10);
    }

    private static void mayPrecede() {
        CHECK.part("\"if no line has a smaller tone in print j than in print i\"");
        for (int line = 0; line < 10; line++) {
            EtchedPlate x = Plates.withLines(10);
            x.dip(9);
            x.pull();
            x.varnish(1023 - (1 << line));
            x.dip(1);
            x.pull();
            due("mayPrecede(0, 1) with line " + line + " darker", x.mayPrecede(0, 1), 1);
            due("mayPrecede(1, 0) with line " + line + " darker", x.mayPrecede(1, 0), 0);
            due("orders(3)", x.orders(3), 1);
            x.burnish((line + 1) % 10, 1);
            x.clean();
            x.dip(1);
            x.burnish(line, 15);
            x.pull();
            due("mayPrecede(1, 2)", x.mayPrecede(1, 2), 0);
            due("mayPrecede(2, 1)", x.mayPrecede(2, 1), 0);
            due("orders(6)", x.orders(6), 0);
        }
        CHECK.part("equal tones of different depths");
        EtchedPlate x = Plates.withDepths(10);
        x.pull();
        x.dip(9);
        x.pull();
        due("mayPrecede(0, 1)", x.mayPrecede(0, 1), 1);
        due("mayPrecede(1, 0)", x.mayPrecede(1, 0), 1);
        due("orders(3)", x.orders(3), 2);
        CHECK.part("\"1 if i equals j\"");
        x = Plates.full();
        for (int print = 0; print < 12; print++) {
            due("mayPrecede(" + print + ", same)", x.mayPrecede(print, print), 1);
        }
    }

    private static void linesOfNow() {
        CHECK.part("the order of prints, with a line drawn after the first of them");
        EtchedPlate x = new EtchedPlate();
        x.pull();
        x.draw();
        x.pull();
        due("mayPrecede(1, 0) with tone 0 in both", x.mayPrecede(1, 0), 1);
        x.dip(5);
        x.pull();
        due("mayPrecede(0, 2)", x.mayPrecede(0, 2), 1);
        due("mayPrecede(2, 0)", x.mayPrecede(2, 0), 0);
        due("orders(7)", x.orders(7), 2);
    }

    private static void orders() {
        CHECK.part("\"1 for the empty set\"");
        due("orders(0) without prints", new EtchedPlate().orders(0), 1);
        due("orders(0) of a full plate", Plates.full().orders(0), 1);
        long factorial = 1;
        for (int prints = 1; prints <= 12; prints++) {
            CHECK.part("orders: \"OUT_OF_RANGE if prints contains a print that does not exist\", " + prints + " prints");
            factorial *= prints;
            EtchedPlate x = Plates.pulled(Plates.withLines(1), prints);
            due("orders of all", x.orders(Plates.allOf(prints)), factorial);
            due("orders of the last", x.orders(1 << prints - 1), 1);
            due("orders of the one beyond", x.orders(1 << prints), -2);
            due("orders of all and the one beyond", x.orders(Plates.allOf(prints + 1)), -2);
            due("orders(MIN)", x.orders(Integer.MIN_VALUE), -2);
            due("orders(1 + MIN)", x.orders(Integer.MIN_VALUE + 1), -2);
            due("orders(-1)", x.orders(-1), -2);
            due("errorCount(-2)", x.errorCount(-2), 5);
            x.undo();
            due("orders of the one that was undone", x.orders(1 << prints - 1), -2);
        }
        twelveDifferent();
    }

    private static void bring(EtchedPlate x, int line, int depth) {
        x.burnish(line, 99);
        x.clean();
        x.varnish(Plates.allOf(x.lines()) - (1 << line));
        x.dip(depth);
    }

    private static void twelveDifferent() {
        CHECK.part("twelve different prints");
        EtchedPlate x = Plates.withDepths(0, 0);
        for (int print = 0; print < 12; print++) {
            bring(x, 0, 5 + 10 * (print / 2));
            bring(x, 1, 5 + 10 * ((print + 1) / 2));
            x.pull();
        }
        due("orders of all, each darker than the one before", x.orders(4095), 1);
        x.undo();
        x.burnish(1, 99);
        x.pull();
        due("orders of all, the last not comparable", x.orders(4095), 0);
        due("orders of all but the last", x.orders(2047), 1);
        due("orders of the first and the last", x.orders(2049), 1);
        due("orders of the second and the last", x.orders(2050), 0);
    }

    /** All sets of prints of a plate against all orders of them. */
    private static void ordersByTrying() {
        CHECK.part("\"possible if in it each print may come before each print that follows it\"");
        EtchedPlate x = Plates.withDepths(10, 10);
        Plates.pulled(x, 2);
        x.varnish(1);
        x.dip(10);
        Plates.pulled(x, 2);
        x.burnish(1, 15);
        x.clean();
        x.dip(11);
        x.pull();
        x.dip(30);
        Plates.pulled(x, 2);
        int[][] tones = new int[7][2];
        for (int print = 0; print < 7; print++) {
            tones[print][0] = x.tone(print, 0);
            tones[print][1] = x.tone(print, 1);
        }
        for (int set = 0; set < 128; set++) {
            due("orders(" + set + ")", x.orders(set), ordersFrom(tones, set));
        }
    }

    private static int ordersFrom(int[][] tones, int set) {
        int count = set == 0 ? 1 : 0;
        for (int first = 0; first < tones.length; first++) {
            if ((set >> first & 1) == 1 && leads(tones, first, set)) {
                count += ordersFrom(tones, set - (1 << first));
            }
        }
        return count;
    }

    private static boolean leads(int[][] tones, int first, int set) {
        for (int other = 0; other < tones.length; other++) {
            boolean smaller = tones[other][0] < tones[first][0] || tones[other][1] < tones[first][1];
            if ((set >> other & 1) == 1 && smaller) {
                return false;
            }
        }
        return true;
    }

    private static void bestState() {
        CHECK.part("\"NONE if there are no prints\"");
        EtchedPlate x = Plates.withLines(3);
        due("bestState()", x.bestState(), -1);
        x.pull();
        due("bestState() with one print", x.bestState(), 1);
        x.undo();
        due("bestState() after the print is undone", x.bestState(), -1);
        for (int code = -5; code <= -2; code++) {
            due("errorCount(" + code + ")", x.errorCount(code), 0);
        }
        CHECK.part("\"of prints with equal differences the one with the lowest number\"");
        x = Plates.withDepths(20);
        x.pull();
        x.dip(20);
        x.pull();
        due("targets 0: the first print", x.bestState(), 1);
        x.setTarget(0, 3);
        due("one below and one above: the first", x.bestState(), 1);
        x.setTarget(0, 4);
        due("the second", x.bestState(), 2);
        x.burnish(0, 20);
        x.pull();
        x.setTarget(0, 2);
        due("the first of two that fit", x.bestState(), 1);
        x.setTarget(0, 9);
        due("far away", x.bestState(), 2);
    }

    private static void bestOfTwelve() {
        CHECK.part("\"the state number of the print with the least difference\": the last of twelve");
        EtchedPlate x = Plates.withLines(10);
        x.setStrength(1);
        for (int print = 0; print < 12; print++) {
            x.burnish(0, 1);
            x.pull();
            if (print == 10) {
                x.dip(99);
            }
        }
        due("stateOf(11)", x.stateOf(11), 12);
        due("bestState() for tones 0", x.bestState(), 1);
        for (int line = 0; line < 10; line++) {
            due("bestState() with " + line + " targets of 9", x.bestState(), line <= 5 ? 1 : 12);
            x.setTarget(line, 9);
        }
        due("bestState() with ten targets of 9", x.bestState(), 12);
        CHECK.part("\"the target tones of the lines that exist now\"");
        x = Plates.withDepths(30);
        x.pull();
        x.draw();
        x.dip(20);
        x.pull();
        Plates.aimed(x, 3, 9, 9, 9);
        // the differences: 0 + 9 and 2 + 7
        due("a tie by the second line's target", x.bestState(), 1);
        x.setTarget(1, 0);
        due("the second line's target is 0", x.bestState(), 1);
        Plates.aimed(x, 5, 2);
        due("both targets are the second print's", x.bestState(), 2);
        x = Plates.pulled(new EtchedPlate(), 1);
        x.draw();
        x.dip(25);
        x.pull();
        due("before the undo", Plates.aimed(x, 5).bestState(), 2);
        Plates.undone(x, 3);
        x.dip(1);
        x.pull();
        due("no line any more: no target counts", x.bestState(), 1);
    }

    public static void main(String[] args) {
        twelvePrints();
        wear();
        tonesBeforeWear();
        everyTone();
        linesDrawnLater();
        rangesOfPrintsAndLines();
        work();
        wearIsNoWork();
        firstPrint();
        mayPrecede();
        linesOfNow();
        orders();
        ordersByTrying();
        bestState();
        bestOfTwelve();
        CHECK.end();
    }
}
