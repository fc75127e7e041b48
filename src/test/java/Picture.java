import java.util.LinkedHashMap;
import java.util.Map;

/**
 * All that the face tells of a plate, and of each state that undo brings back.
 * What no question shows (the strength, the state number, work since the latest
 * print) is seen by what a further call does, on a plate made for it alone.
 */
final class Picture {
    private static final int MORE_THAN_IS_SAVED = 7;

    private final Map<String, Long> answers = new LinkedHashMap<>();
    private final Recipe recipe;
    private final boolean withSaved;
    private String level = "";

    private Picture(Recipe recipe, boolean withSaved) {
        this.recipe = recipe;
        this.withSaved = withSaved;
        look(recipe);
        if (withSaved) {
            lookAtSaved();
        }
    }

    /** Of the plate and its saved states. */
    static Picture of(Recipe recipe) {
        return new Picture(recipe, true);
    }

    /** Of the plate alone, whatever is saved. */
    static Picture withoutSaved(Recipe recipe) {
        return new Picture(recipe, false);
    }

    private void lookAtSaved() {
        int saved = savedStates(recipe);
        put("saved states", saved);
        Recipe at = recipe;
        for (int undos = 1; undos <= saved; undos++) {
            level = "after " + undos + " undos, ";
            at = at.then(x -> x.undo());
            look(at);
        }
    }

    static int savedStates(Recipe recipe) {
        EtchedPlate x = recipe.make();
        int saved = 0;
        while (saved < MORE_THAN_IS_SAVED && x.undo() >= 0) {
            saved++;
        }
        return saved;
    }

    static int strength(Recipe recipe) {
        return recipe.make().setStrength(1);
    }

    private void put(String what, long answer) {
        answers.put(level + what, answer);
    }

    private void look(Recipe at) {
        for (int code = -5; code <= -2; code++) {
            put("errorCount(" + code + ")", at.make().errorCount(code));
        }
        put("strength", strength(at));
        lookAtLines(at.make());
        lookAtPrints(at.make());
        lookAtPairs(at.make());
        lookAtTargets(at.make());
        lookAtPlan(at.make());
        lookAhead(at);
        put("digest() less the hash of the answers", at.make().digest() - hashOfAnswers(at));
    }

    private void lookAtLines(EtchedPlate x) {
        put("lines()", x.lines());
        for (int line = 0; line < x.lines(); line++) {
            put("depth(" + line + ")", x.depth(line));
        }
        put("varnished()", x.varnished());
        put("meanDepthBits()", x.meanDepthBits());
    }

    private void lookAtPrints(EtchedPlate x) {
        put("prints()", x.prints());
        for (int print = 0; print < x.prints(); print++) {
            put("stateOf(" + print + ")", x.stateOf(print));
            for (int line = 0; line < x.lines(); line++) {
                put("tone(" + print + ", " + line + ")", x.tone(print, line));
            }
        }
        put("orders of all", x.orders(Plates.allOf(x.prints())));
        put("bestState()", x.bestState());
    }

    private void lookAtPairs(EtchedPlate x) {
        int prints = x.prints();
        for (int i = 0; i < prints; i++) {
            for (int j = 0; j < prints; j++) {
                put("mayPrecede(" + i + ", " + j + ")", x.mayPrecede(i, j));
            }
        }
    }

    private void lookAtTargets(EtchedPlate x) {
        for (int line = 0; line < 10; line++) {
            put("target of " + line, x.setTarget(line, 0));
        }
    }

    private void lookAtPlan(EtchedPlate x) {
        put("obstacles()", x.obstacles());
        int dips = x.dips();
        put("dips()", dips);
        for (int dip = 0; dip <= dips; dip++) {
            put("dipMinutes(" + dip + ")", x.dipMinutes(dip));
            put("dipVarnish(" + dip + ")", x.dipVarnish(dip));
        }
    }

    /** A line and a print more: they show the varnish of new lines, the wear, the state number and the work. */
    private void lookAhead(Recipe at) {
        EtchedPlate x = at.make();
        int line = x.draw();
        put("a line more", line);
        put("its depth", line < 0 ? line : x.depth(line));
        put("varnished() then", x.varnished());
        x = at.make();
        int print = x.pull();
        put("a print more", print);
        put("its state", print < 0 ? print : x.stateOf(print));
        for (line = 0; line < x.lines(); line++) {
            put("depth(" + line + ") then", x.depth(line));
        }
    }

    private static long mix(long h, long value) {
        return 31 * h + value;
    }

    /** Promise 26's hash of written values. */
    static long hash(int... values) {
        long h = 2689;
        for (int value : values) {
            h = mix(h, value);
        }
        return h;
    }

    /** Promise 26 from the answers of the other calls. */
    private static long hashOfAnswers(Recipe at) {
        EtchedPlate x = at.make();
        EtchedPlate forTargets = at.make();
        long h = 2689;
        for (int code = -2; code >= -5; code--) {
            h = mix(h, x.errorCount(code));
        }
        h = mix(mix(h, strength(at)), x.lines());
        for (int line = 0; line < x.lines(); line++) {
            h = mix(mix(h, x.depth(line)), forTargets.setTarget(line, 0));
        }
        h = mix(mix(h, x.varnished()), x.prints());
        for (int print = 0; print < x.prints(); print++) {
            h = mix(h, x.stateOf(print));
            for (int line = 0; line < x.lines(); line++) {
                h = mix(h, x.tone(print, line));
            }
        }
        h = mix(h, x.obstacles());
        if (x.obstacles() == 0) {
            h = mixPlan(h, x);
        }
        h = mix(h, x.orders(Plates.allOf(x.prints())));
        return mix(h, savedStates(at));
    }

    private static long mixPlan(long start, EtchedPlate x) {
        long h = mix(start, x.dips());
        for (int dip = 0; dip < x.dips(); dip++) {
            h = mix(mix(h, x.dipMinutes(dip)), x.dipVarnish(dip));
        }
        return h;
    }

    /** The plate after a call must look as before it, the counter of this code apart: that is one more. */
    void dueAfter(Check check, String call, Call asked, int countedCode) {
        Picture after = new Picture(recipe.then(asked), withSaved);
        String counted = "errorCount(" + countedCode + ")";
        for (Map.Entry<String, Long> old : answers.entrySet()) {
            Long now = after.answers.get(old.getKey());
            long want = old.getValue() + (old.getKey().endsWith(counted) ? 1 : 0);
            check.holds("after " + call + " there is an answer: " + old.getKey(), now != null);
            check.due("after " + call + ": " + old.getKey(), now == null ? want : now, want);
        }
        check.due("answers after " + call, after.answers.size(), answers.size());
    }

    /** A digest is the hash of what the other calls answer. */
    void dueDigests(Check check, String plate) {
        for (Map.Entry<String, Long> answer : answers.entrySet()) {
            if (answer.getKey().endsWith("hash of the answers")) {
                check.due(plate + ": " + answer.getKey(), answer.getValue(), 0);
            }
        }
    }
}
