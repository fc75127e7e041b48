/** The edges that the document names for lines, bath, varnish and burnishing: promises 1 to 7 and 9 to 12. */
public final class PlateEdgesTest {
    private static final Check CHECK = new Check("PlateEdgesTest");

    private static void due(String call, long got, long want) {
        CHECK.due(call, got, want);
    }

    private static void counters(EtchedPlate x, int outOfRange, int impossible, int full, int nothingSaved) {
        due("errorCount(-2)", x.errorCount(-2), outOfRange);
        due("errorCount(-3)", x.errorCount(-3), impossible);
        due("errorCount(-4)", x.errorCount(-4), full);
        due("errorCount(-5)", x.errorCount(-5), nothingSaved);
    }

    private static void newPlate() {
        CHECK.part("\"Creates a plate without lines and prints\"");
        EtchedPlate x = new EtchedPlate();
        due("lines()", x.lines(), 0);
        due("prints()", x.prints(), 0);
        due("varnished()", x.varnished(), 0);
        due("meanDepthBits()", x.meanDepthBits(), 0);
        due("orders(0)", x.orders(0), 1);
        due("bestState()", x.bestState(), -1);
        due("obstacles()", x.obstacles(), 0);
        due("dips()", x.dips(), 0);
        due("dipMinutes(0)", x.dipMinutes(0), -1);
        due("dipVarnish(0)", x.dipVarnish(0), -1);
        counters(x, 0, 0, 0, 0);
        due("depth(0)", x.depth(0), -2);
        due("stateOf(0)", x.stateOf(0), -2);
        due("tone(0, 0)", x.tone(0, 0), -2);
        due("mayPrecede(0, 0)", x.mayPrecede(0, 0), -2);
        due("orders(1)", x.orders(1), -2);
        due("varnish(1)", x.varnish(1), -2);
        due("burnish(0, 1)", x.burnish(0, 1), -2);
        due("undo()", x.undo(), -5);
        counters(x, 7, 0, 0, 1);
        due("varnish(0)", x.varnish(0), 0);
        due("clean()", x.clean(), 0);
        due("dip(99)", x.dip(99), 0);
        CHECK.part("\"with strength 2, state number 1, and target tone 0 for each line\"");
        x = new EtchedPlate();
        due("setStrength(1)", x.setStrength(1), 2);
        due("pull()", x.pull(), 0);
        due("stateOf(0)", x.stateOf(0), 1);
        for (int line = 0; line < 10; line++) {
            due("setTarget(" + line + ", 9)", x.setTarget(line, 9), 0);
        }
        x = Plates.withLines(1);
        due("dip(1)", x.dip(1), 1);
        due("depth(0)", x.depth(0), 2);
    }

    private static void tenLines() {
        CHECK.part("\"at most 10 lines, numbered from 0 in the order in which they were drawn\"");
        EtchedPlate x = new EtchedPlate();
        for (int k = 0; k < 10; k++) {
            due("lines()", x.lines(), k);
            due("depth(" + k + ") before it is drawn", x.depth(k), -2);
            due("draw()", x.draw(), k);
            due("depth(" + k + ")", x.depth(k), 0);
        }
        due("lines()", x.lines(), 10);
        CHECK.part("\"FULL if there are 10 lines\"");
        due("draw()", x.draw(), -4);
        due("draw() once more", x.draw(), -4);
        counters(x, 10, 0, 2, 0);
        due("lines()", x.lines(), 10);
        due("depth(9)", x.depth(9), 0);
        due("depth(10)", x.depth(10), -2);
        due("undo()", x.undo(), 4);
        due("lines()", x.lines(), 9);
        due("draw() with room for one", x.draw(), 9);
        due("draw() with room for none", x.draw(), -4);
        counters(x, 11, 0, 3, 0);
    }

    private static void newLine() {
        CHECK.part("\"A new line has depth 0 and is not varnished\"");
        EtchedPlate x = new EtchedPlate();
        for (int k = 0; k < 10; k++) {
            x.draw();
            due("depth(" + k + ")", x.depth(k), 0);
            due("varnished() with line " + k + " new", x.varnished(), Plates.allOf(k));
            x.dip(50);
            due("depth(" + k + ")", x.depth(k), 99);
            x.varnish(1 << k);
        }
        due("varnished()", x.varnished(), 1023);
        CHECK.part("\"A new line has depth 0 and is not varnished\", drawn again after undo");
        for (int count = 0; count < 10; count++) {
            x = Plates.withLines(count + 1);
            x.dip(50);
            x.varnish(1 << count);
            Plates.undone(x, 3);
            due("lines()", x.lines(), count);
            due("draw()", x.draw(), count);
            due("depth(" + count + ")", x.depth(count), 0);
            due("varnished()", x.varnished(), 0);
            due("dip(1)", x.dip(1), count + 1);
        }
    }

    private static void strengths() {
        CHECK.part("\"strength: 1 to 5\"");
        EtchedPlate x = Plates.withLines(1);
        due("setStrength(0)", x.setStrength(0), -2);
        due("setStrength(1)", x.setStrength(1), 2);
        due("setStrength(6)", x.setStrength(6), -2);
        due("setStrength(5)", x.setStrength(5), 1);
        due("setStrength(5) again", x.setStrength(5), 5);
        due("dip(1)", x.dip(1), 1);
        due("depth(0)", x.depth(0), 5);
        due("setStrength(1)", x.setStrength(1), 5);
        due("dip(1)", x.dip(1), 1);
        due("depth(0)", x.depth(0), 6);
        counters(x, 2, 0, 0, 0);
    }

    private static void minutes() {
        CHECK.part("\"minutes: 0 to 99\"");
        EtchedPlate x = Plates.withStrength(1, 0);
        due("dip(-1)", x.dip(-1), -2);
        due("dip(100)", x.dip(100), -2);
        due("depth(0)", x.depth(0), 0);
        due("dip(0)", x.dip(0), 0);
        due("depth(0)", x.depth(0), 0);
        due("dip(1)", x.dip(1), 1);
        due("depth(0)", x.depth(0), 1);
        x.undo();
        due("dip(98)", x.dip(98), 1);
        due("depth(0)", x.depth(0), 98);
        x.undo();
        due("dip(99)", x.dip(99), 1);
        due("depth(0)", x.depth(0), 99);
        counters(x, 2, 0, 0, 0);
        CHECK.part("\"the number of lines whose depth has become greater\"");
        x = Plates.withDepths(0, 98, 99, 97, 99, 50);
        x.varnish(0b100000);
        due("dip(1)", x.dip(1), 3);
        due("dip(1)", x.dip(1), 2);
        due("dip(1)", x.dip(1), 1);
        due("dip(0)", x.dip(0), 0);
        due("depth(5)", x.depth(5), 50);
        x.varnish(1);
        due("dip(99) with lines that are varnished or at 99", x.dip(99), 0);
        x = Plates.withLines(10);
        due("dip(1) of ten lines", x.dip(1), 10);
        x.varnish(1023);
        due("dip(1) of ten varnished lines", x.dip(1), 0);
        due("depth(9)", x.depth(9), 2);
    }

    /** Every depth, strength and number of minutes. */
    private static void everyDip() {
        CHECK.part("\"a depth that would be greater than 99 becomes 99\"");
        for (int strength = 1; strength <= 5; strength++) {
            for (int depth = 0; depth <= 99; depth++) {
                for (int minutes = 0; minutes <= 99; minutes++) {
                    EtchedPlate x = Plates.withStrength(strength, depth);
                    int want = Math.min(99, depth + strength * minutes);
                    String text = "depth " + depth + ", strength " + strength + ", dip(" + minutes + ")";
                    due(text, x.dip(minutes), want > depth ? 1 : 0);
                    due("depth(0) after " + text, x.depth(0), want);
                }
            }
        }
    }

    private static void varnish() {
        for (int count = 0; count <= 10; count++) {
            CHECK.part("varnish: \"OUT_OF_RANGE if lines contains a line that does not exist\", " + count + " lines");
            EtchedPlate x = Plates.withLines(count);
            int all = Plates.allOf(count);
            due("varnish(0)", x.varnish(0), 0);
            due("varnish of the line beyond", x.varnish(1 << count), -2);
            due("varnish of all and the line beyond", x.varnish(all | 1 << count), -2);
            due("varnish(MIN)", x.varnish(Integer.MIN_VALUE), -2);
            due("varnish of all and bit 31", x.varnish(all | Integer.MIN_VALUE), -2);
            due("varnished()", x.varnished(), 0);
            due("clean() with none", x.clean(), 0);
            for (int k = 0; k < count; k++) {
                due("varnish of line " + k, x.varnish(1 << k), k + 1);
                due("varnished()", x.varnished(), Plates.allOf(k + 1));
            }
            counters(x, 4, 0, 0, 0);
            CHECK.part("\"lines that are varnished already stay so\", " + count + " lines");
            due("varnish of all once more", x.varnish(all), count);
            due("varnish(0)", x.varnish(0), count);
            due("varnished()", x.varnished(), all);
            CHECK.part("clean: \"the number of lines that were varnished\", " + count + " lines");
            due("clean()", x.clean(), count);
            due("varnished()", x.varnished(), 0);
            due("clean() again", x.clean(), 0);
            due("dip(1)", x.dip(1), count);
        }
    }

    private static void burnish() {
        CHECK.part("burnish: \"amount: 1 to 99\"");
        EtchedPlate x = Plates.withDepths(99, 99);
        due("burnish(0, 0)", x.burnish(0, 0), -2);
        due("burnish(0, 100)", x.burnish(0, 100), -2);
        due("depth(0)", x.depth(0), 99);
        due("burnish(0, 1)", x.burnish(0, 1), 98);
        due("burnish(1, 99)", x.burnish(1, 99), 0);
        due("burnish(1, 1) at depth 0", x.burnish(1, 1), 0);
        due("burnish(2, 1)", x.burnish(2, 1), -2);
        due("burnish(-1, 1)", x.burnish(-1, 1), -2);
        due("depth(0)", x.depth(0), 98);
        counters(x, 4, 0, 0, 0);
        CHECK.part("burnish: \"varnished or not\"");
        x.varnish(1);
        due("burnish(0, 8) under varnish", x.burnish(0, 8), 90);
        due("varnished()", x.varnished(), 1);
        x = Plates.withLines(10);
        x.dip(49);
        due("burnish(9, 99)", x.burnish(9, 99), 0);
        due("burnish(10, 99)", x.burnish(10, 99), -2);
        for (int line = 0; line < 9; line++) {
            due("depth(" + line + ") of another line", x.depth(line), 98);
        }
        CHECK.part("burnish: \"but not below 0\"");
        for (int depth = 0; depth <= 99; depth++) {
            for (int amount = 1; amount <= 99; amount++) {
                x = Plates.withDepths(depth);
                int want = Math.max(0, depth - amount);
                due("depth " + depth + ", burnish(0, " + amount + ")", x.burnish(0, amount), want);
                due("depth(0)", x.depth(0), want);
            }
        }
    }

    private static void depthOfNoLine() {
        for (int count = 0; count <= 10; count++) {
            CHECK.part("\"OUT_OF_RANGE if there is no such line\", " + count + " lines");
            EtchedPlate x = Plates.withLines(count);
            x.dip(7);
            due("depth(-1)", x.depth(-1), -2);
            due("depth(" + count + ")", x.depth(count), -2);
            counters(x, 2, 0, 0, 0);
            for (int line = 0; line < count; line++) {
                due("depth(" + line + ")", x.depth(line), 14);
            }
            counters(x, 2, 0, 0, 0);
        }
    }

    /** Every sum of depths that so many lines can have. */
    private static void everyMean() {
        CHECK.part("\"the bits of 0.0f if there are no lines\"");
        due("meanDepthBits()", new EtchedPlate().meanDepthBits(), Float.floatToIntBits(0.0f));
        EtchedPlate undone = Plates.withLines(1);
        undone.dip(40);
        Plates.undone(undone, 2);
        due("meanDepthBits() after the only line is undone", undone.meanDepthBits(), Float.floatToIntBits(0.0f));
        CHECK.part("\"the sum of the depths, converted to float, divided by the number of lines, converted to float\"");
        for (int count = 1; count <= 10; count++) {
            for (int sum = 0; sum <= 99 * count; sum++) {
                int[] depths = new int[count];
                for (int line = 0; line < count; line++) {
                    depths[line] = Math.min(99, Math.max(0, sum - 99 * line));
                }
                EtchedPlate x = Plates.withDepths(depths);
                int want = Float.floatToIntBits((float) sum / (float) count);
                due("the sum " + sum + " of " + count + " lines", x.meanDepthBits(), want);
            }
        }
    }

    public static void main(String[] args) {
        newPlate();
        tenLines();
        newLine();
        strengths();
        minutes();
        everyDip();
        varnish();
        burnish();
        depthOfNoLine();
        everyMean();
        CHECK.end();
    }
}
