/** The edges that the document names for target tones and plans: promises 19 to 23. */
public final class PlanEdgesTest {
    private static final int MIN = Integer.MIN_VALUE;
    private static final int MAX = Integer.MAX_VALUE;
    private static final Check CHECK = new Check("PlanEdgesTest");

    private static void due(String call, long got, long want) {
        CHECK.due(call, got, want);
    }

    private static void plan(EtchedPlate x, int... minutesAndVarnish) {
        Plans.due(CHECK, x, minutesAndVarnish);
    }

    private static void targets() {
        CHECK.part("\"line: 0 to 9 (the line need not exist)\", \"tone: 0 to 9\"");
        EtchedPlate x = new EtchedPlate();
        due("setTarget(-1, 0)", x.setTarget(-1, 0), -2);
        due("setTarget(10, 0)", x.setTarget(10, 0), -2);
        due("setTarget(0, -1)", x.setTarget(0, -1), -2);
        due("setTarget(0, 10)", x.setTarget(0, 10), -2);
        due("setTarget(9, -1)", x.setTarget(9, -1), -2);
        due("setTarget(9, 10)", x.setTarget(9, 10), -2);
        due("setTarget(-1, 10)", x.setTarget(-1, 10), -2);
        due("errorCount(-2)", x.errorCount(-2), 7);
        due("setTarget(0, 0)", x.setTarget(0, 0), 0);
        due("setTarget(0, 9)", x.setTarget(0, 9), 0);
        due("setTarget(9, 9)", x.setTarget(9, 9), 0);
        due("setTarget(9, 0)", x.setTarget(9, 0), 9);
        due("setTarget(0, 0)", x.setTarget(0, 0), 9);
        due("setTarget(0, 0)", x.setTarget(0, 0), 0);
        due("setTarget(8, 0)", x.setTarget(8, 0), 0);
        due("errorCount(-2)", x.errorCount(-2), 7);
        due("undo()", x.undo(), -5);
        CHECK.part("\"the previous target tone\", of each line by itself");
        for (int line = 0; line < 10; line++) {
            due("setTarget(" + line + ", " + (9 - line) + ")", x.setTarget(line, 9 - line), 0);
        }
        for (int line = 0; line < 10; line++) {
            due("setTarget(" + line + ", 0)", x.setTarget(line, 0), 9 - line);
        }
    }

    private static int least(int depth, int tone, int strength) {
        for (int minutes = 0; minutes <= 99; minutes++) {
            if (Plans.allows(depth, tone, strength, minutes)) {
                return minutes;
            }
        }
        return -1;
    }

    private static int greatest(int depth, int tone, int strength) {
        for (int minutes = 99; minutes >= 0; minutes--) {
            if (Plans.allows(depth, tone, strength, minutes)) {
                return minutes;
            }
        }
        return -1;
    }

    /** Every depth, target and strength of a plate with one line. */
    private static void everyLine() {
        for (int strength = 1; strength <= 5; strength++) {
            for (int depth = 0; depth <= 99; depth++) {
                for (int tone = 0; tone <= 9; tone++) {
                    CHECK.part("one line: depth " + depth + ", strength " + strength + ", target " + tone);
                    EtchedPlate x = Plates.aimed(Plates.withStrength(strength, depth), tone);
                    int minutes = least(depth, tone, strength);
                    if (minutes < 0) {
                        due("obstacles()", x.obstacles(), 1);
                        due("dips()", x.dips(), -3);
                    } else if (minutes == 0) {
                        plan(x);
                    } else {
                        plan(x, greatest(depth, tone, strength), 0);
                    }
                }
            }
        }
    }

    private static void minutesAndDepths() {
        CHECK.part("\"a total number of minutes, 0 to 99\"");
        plan(Plates.aimed(Plates.withStrength(1, 0), 9), 99, 0);
        plan(Plates.aimed(Plates.withStrength(1, 1), 9), 98, 0);
        plan(Plates.aimed(Plates.withStrength(1, 0), 0));
        CHECK.part("\"(not limited to 99 here)\"");
        // 88 + 5 * 3 would be 103
        plan(Plates.aimed(Plates.withStrength(5, 88), 9), 2, 0);
        plan(Plates.aimed(Plates.withStrength(5, 89), 9), 2, 0);
        plan(Plates.aimed(Plates.withStrength(4, 89), 9), 2, 0);
        CHECK.part("\"at least 10 * target and at most 10 * target + 9\"");
        plan(Plates.aimed(Plates.withStrength(1, 10), 1));
        plan(Plates.aimed(Plates.withStrength(1, 19), 1));
        plan(Plates.aimed(Plates.withStrength(1, 9), 1), 10, 0);
        due("obstacles() at depth 20", Plates.aimed(Plates.withStrength(1, 20), 1).obstacles(), 1);
        plan(Plates.aimed(Plates.withStrength(1, 99), 9));
        due("obstacles() at depth 99", Plates.aimed(Plates.withStrength(1, 99), 8).obstacles(), 1);
        plan(Plates.aimed(Plates.withStrength(1, 9), 0));
        due("obstacles() at depth 10", Plates.aimed(Plates.withStrength(1, 10), 0).obstacles(), 1);
    }

    private static int toneFor(int gap) {
        return gap <= 0 ? 0 : (gap + 9) / 10;
    }

    /** A line for each gap, which is what its depth lacks of ten times its target; -9 to 90. */
    private static EtchedPlate withGaps(int strength, int... gaps) {
        int[] depths = new int[gaps.length];
        int[] tones = new int[gaps.length];
        for (int line = 0; line < gaps.length; line++) {
            tones[line] = toneFor(gaps[line]);
            depths[line] = 10 * tones[line] - gaps[line];
        }
        return Plates.aimed(Plates.withStrength(strength, depths), tones);
    }

    /** Two lines: the one whose greatest minutes are fewer comes first, and the other joins it if it can. */
    private static void pair(int strength, int first, int second) {
        EtchedPlate x = withGaps(strength, first, second);
        int from0 = least(-first, 0, strength);
        int from1 = least(-second, 0, strength);
        int to0 = greatest(-first, 0, strength);
        int to1 = greatest(-second, 0, strength);
        int sooner = Math.min(to0, to1);
        if (from0 == 0 && from1 == 0) {
            plan(x);
        } else if (from0 == 0) {
            plan(x, to1, 1);
        } else if (from1 == 0) {
            plan(x, to0, 2);
        } else if (from0 <= sooner && from1 <= sooner) {
            plan(x, sooner, 0);
        } else {
            plan(x, sooner, 0, Math.max(to0, to1) - sooner, to0 < to1 ? 1 : 2);
        }
    }

    private static void everyPair() {
        for (int strength = 1; strength <= 5; strength++) {
            for (int first = -9; first <= 90; first++) {
                for (int second = -9; second <= 90; second++) {
                    CHECK.part("two lines: strength " + strength + ", gaps " + first + " and " + second);
                    pair(strength, first, second);
                }
            }
        }
    }

    private static void sharedTotals() {
        CHECK.part("\"a line that already allows 0 minutes, or one of the totals chosen so far, needs no new total\"");
        // 10 to 19 and 19 to 28 meet in 19; 10 to 19 and 20 to 29 do not meet
        plan(withGaps(1, 10, 19), 19, 0);
        plan(withGaps(1, 10, 20), 19, 0, 10, 1);
        plan(withGaps(1, 20, 10), 19, 0, 10, 2);
        CHECK.part("\"A line uses 0 minutes if it allows that\"");
        // line 0 allows 0 to 3, line 1 1 to 3: both allow the total 3
        plan(withGaps(3, 0, 1), 3, 1);
        plan(withGaps(3, 1, 0), 3, 2);
        plan(withGaps(4, 0, 2), 2, 1);
        CHECK.part("\"otherwise the least of the chosen totals that it allows\"");
        // 1 to 4, 5 to 7, 4 to 7: line 2 allows 4 and 7
        plan(withGaps(3, 3, 13, 12), 4, 0, 3, 0b101);
        plan(withGaps(3, 12, 13, 3), 4, 0, 3, 0b101);
        // 1 to 3, 4 to 6, 7 to 9, and 3 to 6 in the middle
        plan(withGaps(3, 1, 10, 19, 9), 3, 0, 3, 0b1001, 3, 0b1011);
        CHECK.part("\"lines with equal numbers in ascending order of their numbers\"");
        // 2 to 5 and 3 to 5; 3 to 5 and 2 to 5
        plan(withGaps(3, 6, 8), 5, 0);
        plan(withGaps(3, 8, 6), 5, 0);
    }

    /** With strength 3 or 4 ten lines can need ten different totals. */
    private static void tenDips() {
        CHECK.part("a plan with ten dips");
        for (int strength = 3; strength <= 4; strength++) {
            int step = strength == 3 ? 9 : 8;
            int minutes = step / strength;
            int[] rising = new int[10];
            int[] falling = new int[10];
            for (int k = 0; k < 10; k++) {
                rising[k] = 1 + step * k;
                falling[9 - k] = 1 + step * k;
            }
            tenDips(withGaps(strength, rising), minutes, true);
            tenDips(withGaps(strength, falling), minutes, false);
        }
    }

    private static void tenDips(EtchedPlate x, int minutes, boolean rising) {
        int[] dips = new int[20];
        for (int dip = 0; dip < 10; dip++) {
            dips[2 * dip] = minutes;
            dips[2 * dip + 1] = rising ? Plates.allOf(dip) : 1023 - Plates.allOf(10 - dip);
        }
        plan(x, dips);
        due("dipMinutes(MAX)", x.dipMinutes(MAX), -1);
        due("dipMinutes(-1)", x.dipMinutes(-1), -2);
        due("errorCount(-2)", x.errorCount(-2), 1);
    }

    private static void emptyAndFull() {
        CHECK.part("a plan without lines, and without anything to do");
        plan(new EtchedPlate());
        plan(Plates.aimed(new EtchedPlate(), 9, 9, 9, 9, 9, 9, 9, 9, 9, 9));
        plan(Plates.withLines(10));
        CHECK.part("a plan with ten lines and one dip");
        plan(Plates.aimed(Plates.withStrength(1, 0, 0, 0, 0, 0, 0, 0, 0, 0, 0), 9, 9, 9, 9, 9, 9, 9, 9, 9, 9), 99, 0);
        plan(Plates.aimed(Plates.withLines(10), 0, 0, 0, 0, 0, 0, 0, 0, 0, 9), 49, 511);
        CHECK.part("\"the target tones of the lines that exist now\"");
        EtchedPlate x = Plates.aimed(Plates.withLines(1), 1, 3);
        plan(x, 9, 0);
        x.draw();
        plan(x, 9, 0, 10, 1);
        x.undo();
        plan(x, 9, 0);
        CHECK.part("\"uses the present depths and the strength\", and not the varnish");
        x = Plates.aimed(Plates.withLines(2), 2, 4);
        x.varnish(3);
        plan(x, 14, 0, 10, 1);
        x.setStrength(5);
        plan(x, 5, 0, 4, 1);
        x.clean();
        x.dip(4);
        plan(x, 5, 1);
        x.undo();
        plan(x, 5, 0, 4, 1);
        x.burnish(0, 99);
        plan(x, 5, 0, 4, 1);
    }

    /** The three checks of a dip's index, in their order, for plans with no dip to ten dips. */
    private static void indexOfDip() {
        for (int dips = 0; dips <= 10; dips++) {
            CHECK.part("\"NONE if the plan has not so many dips\", " + dips + " dips");
            int[] gaps = new int[10];
            for (int line = 0; line < dips; line++) {
                gaps[line] = 1 + 9 * line;
            }
            EtchedPlate x = withGaps(3, gaps);
            due("dips()", x.dips(), dips);
            for (int dip : new int[] {dips, dips + 1, 10, 11, MAX}) {
                due("dipMinutes(" + dip + ")", x.dipMinutes(dip), -1);
                due("dipVarnish(" + dip + ")", x.dipVarnish(dip), -1);
            }
            if (dips > 0) {
                due("dipMinutes(0)", x.dipMinutes(0), 3);
                due("dipMinutes(last)", x.dipMinutes(dips - 1), 3);
                due("dipVarnish(last)", x.dipVarnish(dips - 1), 1023 - (Plates.allOf(dips) ^ Plates.allOf(dips - 1)));
            }
            due("errorCount(-2)", x.errorCount(-2), 0);
            due("errorCount(-3)", x.errorCount(-3), 0);
            for (int dip : new int[] {-1, -2, MIN}) {
                due("dipMinutes(" + dip + ")", x.dipMinutes(dip), -2);
                due("dipVarnish(" + dip + ")", x.dipVarnish(dip), -2);
            }
            due("errorCount(-2)", x.errorCount(-2), 6);
        }
        CHECK.part("\"OUT_OF_RANGE if dip is negative (checked first); IMPOSSIBLE if there is no plan (checked second)\"");
        EtchedPlate x = Plates.withDepths(10);
        due("dipMinutes(-1)", x.dipMinutes(-1), -2);
        due("dipVarnish(-1)", x.dipVarnish(-1), -2);
        due("errorCount(-3)", x.errorCount(-3), 0);
        for (int dip : new int[] {0, 1, 10, MAX}) {
            due("dipMinutes(" + dip + ")", x.dipMinutes(dip), -3);
            due("dipVarnish(" + dip + ")", x.dipVarnish(dip), -3);
        }
        due("errorCount(-3)", x.errorCount(-3), 8);
        due("errorCount(-2)", x.errorCount(-2), 2);
    }

    /** Every set of lines can make the plan impossible. */
    private static void everyObstacle() {
        Recipe tenAt19 = () -> Plates.withStrength(1, 19, 19, 19, 19, 19, 19, 19, 19, 19, 19);
        for (int set = 0; set < 1024; set++) {
            CHECK.part("\"a bit set of the lines that allow no number of minutes\", " + set);
            EtchedPlate x = tenAt19.make();
            for (int line = 0; line < 10; line++) {
                x.setTarget(line, (set >> line & 1) == 1 ? 0 : 1);
            }
            due("obstacles()", x.obstacles(), set);
            due("errorCount(-3)", x.errorCount(-3), 0);
            due("dips()", x.dips(), set == 0 ? 0 : -3);
            due("errorCount(-3)", x.errorCount(-3), set == 0 ? 0 : 1);
        }
        CHECK.part("\"IMPOSSIBLE if some line allows no number of minutes\", of a line that does not exist yet or any more");
        EtchedPlate x = Plates.pulled(Plates.withLines(1), 1);
        x.draw();
        x.dip(5);
        due("obstacles()", x.obstacles(), 3);
        x.setTarget(0, 1);
        due("obstacles()", x.obstacles(), 2);
        due("dips()", x.dips(), -3);
        x.undo();
        due("obstacles() with both at depth 0", x.obstacles(), 0);
        due("dips()", x.dips(), 1);
        x.undo();
        due("dips() with one line", x.dips(), 1);
    }

    public static void main(String[] args) {
        targets();
        everyLine();
        minutesAndDepths();
        everyPair();
        sharedTotals();
        tenDips();
        emptyAndFull();
        indexOfDip();
        everyObstacle();
        CHECK.end();
    }
}
