/**
 * Long runs of calls, on the class and on the plain model: every answer must be
 * the same. The numbers come from a fixed sequence, so each run is always the same.
 */
public final class RunsTest {
    private static final int RUNS = 400;
    /** As many as the document promises answers for: after them nothing is asked any more. */
    private static final int CALLS = 512;
    private static final int METHODS = 25;
    private static final int DIGEST = 24;
    private static final int[] WILD = {
        Integer.MIN_VALUE, Integer.MIN_VALUE + 1, -1000, -100, -11, -7, -6, -5, -4, -3, -2, -1, 0, 1, 5, 6, 9, 10, 11,
        12, 13, 31, 32, 33, 63, 98, 99, 100, 101, 1023, 1024, 1025, 4095, 4096, 8191, 65536, 1 << 30,
        Integer.MAX_VALUE - 1, Integer.MAX_VALUE,
    };

    private final Check check;
    private long seed;
    private EtchedPlate plate;
    private PlainModel model;
    private String text = "";
    private int a;
    private int b;
    private int calls = 0;

    private RunsTest(Check check, long seed) {
        this.check = check;
        this.seed = seed * 7919 + 17;
    }

    /** A number from 0 to bound - 1. */
    private int some(int bound) {
        seed = seed * 6364136223846793005L + 1442695040888963407L;
        return (int) ((seed >>> 33) % bound);
    }

    /** Mostly a number in the range, at times one at or beyond its edges. */
    private int from(int least, int greatest) {
        int kind = some(40);
        if (kind == 0) {
            return WILD[some(WILD.length)];
        }
        if (kind == 1) {
            return least - 1;
        }
        if (kind == 2) {
            return greatest + 1;
        }
        if (kind == 3) {
            return some(2) == 0 ? least : greatest;
        }
        return least + some(Math.max(1, greatest - least + 1));
    }

    private int someSet(int count) {
        return some(30) == 0 ? WILD[some(WILD.length)] : some(1 << count) | (some(20) == 0 ? 1 << count : 0);
    }

    private int line() {
        return from(0, model.lines() - 1);
    }

    private int print() {
        return from(0, model.prints() - 1);
    }

    private long real(int method) {
        switch (method) {
            case 0: return plate.draw();
            case 1: return plate.setStrength(a);
            case 2: return plate.dip(a);
            case 3: return plate.varnish(a);
            case 4: return plate.clean();
            case 5: return plate.burnish(a, b);
            case 6: return plate.pull();
            case 7: return plate.lines();
            case 8: return plate.depth(a);
            case 9: return plate.varnished();
            case 10: return plate.meanDepthBits();
            case 11: return plate.prints();
            case 12: return plate.stateOf(a);
            case 13: return plate.tone(a, b);
            case 14: return plate.mayPrecede(a, b);
            case 15: return plate.orders(a);
            case 16: return plate.bestState();
            case 17: return plate.setTarget(a, b);
            case 18: return plate.dips();
            case 19: return plate.dipMinutes(a);
            case 20: return plate.dipVarnish(a);
            case 21: return plate.obstacles();
            case 22: return plate.undo();
            case 23: return plate.errorCount(a);
            default: return plate.digest();
        }
    }

    private long wanted(int method) {
        switch (method) {
            case 0: text = "draw()"; return model.draw();
            case 1: text = "setStrength(" + a + ")"; return model.setStrength(a);
            case 2: text = "dip(" + a + ")"; return model.dip(a);
            case 3: text = "varnish(" + a + ")"; return model.varnish(a);
            case 4: text = "clean()"; return model.clean();
            case 5: text = "burnish(" + a + ", " + b + ")"; return model.burnish(a, b);
            case 6: text = "pull()"; return model.pull();
            case 7: text = "lines()"; return model.lines();
            case 8: text = "depth(" + a + ")"; return model.depth(a);
            case 9: text = "varnished()"; return model.varnished();
            case 10: text = "meanDepthBits()"; return model.meanDepthBits();
            case 11: text = "prints()"; return model.prints();
            case 12: text = "stateOf(" + a + ")"; return model.stateOf(a);
            case 13: text = "tone(" + a + ", " + b + ")"; return model.tone(a, b);
            case 14: text = "mayPrecede(" + a + ", " + b + ")"; return model.mayPrecede(a, b);
            case 15: text = "orders(" + a + ")"; return model.orders(a);
            case 16: text = "bestState()"; return model.bestState();
            case 17: text = "setTarget(" + a + ", " + b + ")"; return model.setTarget(a, b);
            case 18: text = "dips()"; return model.dips();
            case 19: text = "dipMinutes(" + a + ")"; return model.dipMinutes(a);
            case 20: text = "dipVarnish(" + a + ")"; return model.dipVarnish(a);
            case 21: text = "obstacles()"; return model.obstacles();
            case 22: text = "undo()"; return model.undo();
            case 23: text = "errorCount(" + a + ")"; return model.errorCount(a);
            default: text = "digest()"; return model.digest();
        }
    }

    private void chooseArguments(int method) {
        b = 0;
        switch (method) {
            case 1: a = from(1, 5); break;
            case 2: a = some(3) == 0 ? from(0, 99) : from(0, 12); break;
            case 3: a = someSet(model.lines()); break;
            case 5: a = line(); b = some(3) == 0 ? from(1, 99) : from(1, 15); break;
            case 8: a = line(); break;
            case 12: a = print(); break;
            case 13: a = print(); b = line(); break;
            case 14: a = print(); b = print(); break;
            case 15: a = someSet(model.prints()); break;
            case 17: a = from(0, 9); b = from(0, 9); break;
            case 19: a = from(0, 5); break;
            case 20: a = from(0, 5); break;
            case 23: a = from(-5, -2); break;
            default: a = 0;
        }
    }

    /** Sets each target at or above the line's tone, for otherwise nearly all plans are impossible. */
    private void aimHigh() {
        for (int line = 0; line < model.lines(); line++) {
            int depth = model.depth(line);
            a = line;
            b = depth / 10 + some(10 - depth / 10);
            compare(17);
        }
    }

    private void compare(int method) {
        if (calls == CALLS) {
            return;
        }
        calls++;
        long want = wanted(method);
        check.due(text, real(method), want);
    }

    /** With many undos a run reaches few lines and prints, so two moods of three go back less and build more. */
    private int someMethod(int mood) {
        int method = some(METHODS);
        if (method == 22 && mood != 0 && some(4) != 0) {
            return 6;
        }
        if (mood == 1 && some(6) == 0) {
            return 0;
        }
        return mood == 2 && some(6) == 0 ? 6 : method;
    }

    private void run(int mood) {
        plate = new EtchedPlate();
        model = new PlainModel();
        while (calls < CALLS && check.allRight()) {
            if (some(60) == 0) {
                aimHigh();
            }
            int method = calls == CALLS - 1 ? DIGEST : someMethod(mood);
            chooseArguments(method);
            compare(method);
            if (calls % 8 == 0) {
                compare(DIGEST);
            }
        }
    }

    public static void main(String[] args) {
        Check check = new Check("RunsTest");
        for (int k = 1; k <= RUNS && check.allRight(); k++) {
            check.part("run " + k);
            new RunsTest(check, k).run(k % 3);
        }
        check.end();
    }
}
