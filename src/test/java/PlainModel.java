import java.util.ArrayDeque;
import java.util.ArrayList;
import java.util.Arrays;
import java.util.Collections;
import java.util.Comparator;
import java.util.Deque;
import java.util.List;
import java.util.TreeSet;

/**
 * The document's words, taken one by one with the Java library and no thought of
 * speed: what EtchedPlate is compared with. It shares no code with the class.
 */
final class PlainModel {
    /** A print: its state number, and the tones of the lines that existed. */
    private record Print(int state, List<Integer> tones) {
        int toneOf(int line) {
            return line < tones.size() ? tones.get(line) : 0;
        }
    }

    /** What undo brings back; the lists are never changed, only replaced. */
    private record State(List<Integer> depths, List<Boolean> varnish, int strength, int number, boolean work,
                         List<Print> prints) { }

    private State s = new State(List.of(), List.of(), 2, 1, false, List.of());
    private final Deque<State> savedStates = new ArrayDeque<>();
    private final int[] target = new int[10];
    private final int[] counter = new int[6];

    private int error(int code) {
        counter[-code]++;
        return code;
    }

    private void save() {
        savedStates.addLast(s);
        if (savedStates.size() > 5) {
            savedStates.removeFirst();
        }
    }

    private boolean line(int k) {
        return 0 <= k && k < s.depths.size();
    }

    private boolean print(int k) {
        return 0 <= k && k < s.prints.size();
    }

    /** The members of a bit set, or null if it has one that is not below count. */
    private static List<Integer> members(int set, int count) {
        List<Integer> found = new ArrayList<>();
        for (int k = 0; k < 32; k++) {
            if ((set >>> k & 1) == 1) {
                if (k >= count) {
                    return null;
                }
                found.add(k);
            }
        }
        return found;
    }

    int draw() {
        if (s.depths.size() == 10) {
            return error(-4);
        }
        save();
        List<Integer> depths = new ArrayList<>(s.depths);
        List<Boolean> varnish = new ArrayList<>(s.varnish);
        depths.add(0);
        varnish.add(false);
        s = new State(depths, varnish, s.strength, s.number, true, s.prints);
        return depths.size() - 1;
    }

    int setStrength(int strength) {
        if (strength < 1 || strength > 5) {
            return error(-2);
        }
        save();
        int previous = s.strength;
        s = new State(s.depths, s.varnish, strength, s.number, s.work, s.prints);
        return previous;
    }

    int dip(int minutes) {
        if (minutes < 0 || minutes > 99) {
            return error(-2);
        }
        save();
        List<Integer> depths = new ArrayList<>();
        int greater = 0;
        for (int k = 0; k < s.depths.size(); k++) {
            int depth = s.depths.get(k);
            if (!s.varnish.get(k)) {
                depth += s.strength * minutes;
                if (depth > 99) {
                    depth = 99;
                }
            }
            if (depth > s.depths.get(k)) {
                greater++;
            }
            depths.add(depth);
        }
        s = new State(depths, s.varnish, s.strength, s.number, s.work || minutes > 0, s.prints);
        return greater;
    }

    int varnish(int lines) {
        List<Integer> chosen = members(lines, s.depths.size());
        if (chosen == null) {
            return error(-2);
        }
        save();
        List<Boolean> varnish = new ArrayList<>(s.varnish);
        for (int k : chosen) {
            varnish.set(k, true);
        }
        s = new State(s.depths, varnish, s.strength, s.number, s.work, s.prints);
        return Collections.frequency(varnish, true);
    }

    int clean() {
        save();
        int before = Collections.frequency(s.varnish, true);
        s = new State(s.depths, new ArrayList<>(Collections.nCopies(s.depths.size(), false)), s.strength, s.number,
            s.work, s.prints);
        return before;
    }

    int burnish(int line, int amount) {
        if (!line(line) || amount < 1 || amount > 99) {
            return error(-2);
        }
        save();
        List<Integer> depths = new ArrayList<>(s.depths);
        depths.set(line, Math.max(0, depths.get(line) - amount));
        s = new State(depths, s.varnish, s.strength, s.number, true, s.prints);
        return depths.get(line);
    }

    int pull() {
        if (s.prints.size() == 12) {
            return error(-4);
        }
        save();
        int number = s.number;
        if (!s.prints.isEmpty() && s.work) {
            number++;
        }
        List<Integer> tones = new ArrayList<>();
        List<Integer> depths = new ArrayList<>();
        for (int depth : s.depths) {
            tones.add(depth / 10);
            depths.add((s.prints.size() + 1) % 3 == 0 && depth > 0 ? depth - 1 : depth);
        }
        List<Print> prints = new ArrayList<>(s.prints);
        prints.add(new Print(number, tones));
        s = new State(depths, s.varnish, s.strength, number, false, prints);
        return prints.size() - 1;
    }

    int lines() {
        return s.depths.size();
    }

    int depth(int line) {
        return line(line) ? s.depths.get(line) : error(-2);
    }

    int varnished() {
        int set = 0;
        for (int k = 0; k < s.varnish.size(); k++) {
            set += s.varnish.get(k) ? 1 << k : 0;
        }
        return set;
    }

    int meanDepthBits() {
        if (s.depths.isEmpty()) {
            return Float.floatToIntBits(0.0f);
        }
        int sum = 0;
        for (int depth : s.depths) {
            sum += depth;
        }
        return Float.floatToIntBits((float) sum / (float) s.depths.size());
    }

    int prints() {
        return s.prints.size();
    }

    int stateOf(int print) {
        return print(print) ? s.prints.get(print).state : error(-2);
    }

    int tone(int print, int line) {
        return print(print) && line(line) ? s.prints.get(print).toneOf(line) : error(-2);
    }

    private boolean before(int i, int j) {
        for (int k = 0; k < s.depths.size(); k++) {
            if (s.prints.get(j).toneOf(k) < s.prints.get(i).toneOf(k)) {
                return false;
            }
        }
        return true;
    }

    int mayPrecede(int i, int j) {
        if (!print(i) || !print(j)) {
            return error(-2);
        }
        return before(i, j) ? 1 : 0;
    }

    /** For each print the set of the prints that it may come before. */
    private int[] followers() {
        int[] followers = new int[s.prints.size()];
        for (int i = 0; i < followers.length; i++) {
            for (int j = 0; j < followers.length; j++) {
                followers[i] |= before(i, j) ? 1 << j : 0;
            }
        }
        return followers;
    }

    /** The orders of a set: each member that may come before all others, and then the orders of these. */
    private static int ordersOf(int set, int[] followers, int[] known) {
        if (set == 0) {
            return 1;
        }
        if (known[set] >= 0) {
            return known[set];
        }
        int sum = 0;
        for (int first = 0; first < followers.length; first++) {
            int others = set & ~(1 << first);
            if (others != set && (others & ~followers[first]) == 0) {
                sum += ordersOf(others, followers, known);
            }
        }
        known[set] = sum;
        return sum;
    }

    int orders(int prints) {
        if (members(prints, s.prints.size()) == null) {
            return error(-2);
        }
        int[] known = new int[4096];
        Arrays.fill(known, -1);
        return ordersOf(prints, followers(), known);
    }

    int bestState() {
        int best = -1;
        int leastSum = Integer.MAX_VALUE;
        for (Print print : s.prints) {
            int sum = 0;
            for (int k = 0; k < s.depths.size(); k++) {
                sum += Math.abs(print.toneOf(k) - target[k]);
            }
            if (sum < leastSum) {
                leastSum = sum;
                best = print.state;
            }
        }
        return best;
    }

    int setTarget(int line, int tone) {
        if (line < 0 || line > 9 || tone < 0 || tone > 9) {
            return error(-2);
        }
        int previous = target[line];
        target[line] = tone;
        return previous;
    }

    /** The numbers of minutes that a line allows. */
    private TreeSet<Integer> allowed(int line) {
        TreeSet<Integer> found = new TreeSet<>();
        for (int minutes = 0; minutes <= 99; minutes++) {
            int depth = s.depths.get(line) + s.strength * minutes;
            if (depth >= 10 * target[line] && depth <= 10 * target[line] + 9) {
                found.add(minutes);
            }
        }
        return found;
    }

    int obstacles() {
        int set = 0;
        for (int k = 0; k < s.depths.size(); k++) {
            set |= allowed(k).isEmpty() ? 1 << k : 0;
        }
        return set;
    }

    /** The chosen totals, for a plate without obstacles. */
    private List<Integer> totals() {
        List<Integer> order = new ArrayList<>();
        for (int k = 0; k < s.depths.size(); k++) {
            order.add(k);
        }
        order.sort(Comparator.<Integer>comparingInt(k -> allowed(k).last()).thenComparingInt(k -> k));
        TreeSet<Integer> chosen = new TreeSet<>();
        for (int k : order) {
            TreeSet<Integer> minutes = allowed(k);
            boolean needs = !minutes.contains(0) && Collections.disjoint(minutes, chosen);
            if (needs) {
                chosen.add(minutes.last());
            }
        }
        return new ArrayList<>(chosen);
    }

    private int minutesOfLine(int line, List<Integer> totals) {
        TreeSet<Integer> minutes = allowed(line);
        if (minutes.contains(0)) {
            return 0;
        }
        minutes.retainAll(totals);
        return minutes.first();
    }

    int dips() {
        return obstacles() != 0 ? error(-3) : totals().size();
    }

    private int minutesOfDip(int dip, List<Integer> totals) {
        return totals.get(dip) - (dip == 0 ? 0 : totals.get(dip - 1));
    }

    private int varnishOfDip(int dip, List<Integer> totals) {
        int had = dip == 0 ? 0 : totals.get(dip - 1);
        int set = 0;
        for (int k = 0; k < s.depths.size(); k++) {
            set |= minutesOfLine(k, totals) <= had ? 1 << k : 0;
        }
        return set;
    }

    int dipMinutes(int dip) {
        if (dip < 0) {
            return error(-2);
        }
        if (obstacles() != 0) {
            return error(-3);
        }
        return dip < totals().size() ? minutesOfDip(dip, totals()) : -1;
    }

    int dipVarnish(int dip) {
        if (dip < 0) {
            return error(-2);
        }
        if (obstacles() != 0) {
            return error(-3);
        }
        return dip < totals().size() ? varnishOfDip(dip, totals()) : -1;
    }

    int undo() {
        if (savedStates.isEmpty()) {
            return error(-5);
        }
        s = savedStates.removeLast();
        return savedStates.size();
    }

    int errorCount(int code) {
        return code >= -5 && code <= -2 ? counter[-code] : error(-2);
    }

    private List<Long> digested() {
        List<Long> v = new ArrayList<>();
        for (int code = 2; code <= 5; code++) {
            v.add((long) counter[code]);
        }
        v.add((long) s.strength);
        v.add((long) s.depths.size());
        for (int k = 0; k < s.depths.size(); k++) {
            v.add((long) s.depths.get(k));
            v.add((long) target[k]);
        }
        v.add((long) varnished());
        v.add((long) s.prints.size());
        for (Print print : s.prints) {
            v.add((long) print.state);
            for (int k = 0; k < s.depths.size(); k++) {
                v.add((long) print.toneOf(k));
            }
        }
        v.add((long) obstacles());
        if (obstacles() == 0) {
            List<Integer> totals = totals();
            v.add((long) totals.size());
            for (int dip = 0; dip < totals.size(); dip++) {
                v.add((long) minutesOfDip(dip, totals));
                v.add((long) varnishOfDip(dip, totals));
            }
        }
        v.add((long) orders((1 << s.prints.size()) - 1));
        v.add((long) savedStates.size());
        return v;
    }

    long digest() {
        long h = 2689;
        for (long v : digested()) {
            h = 31 * h + v;
        }
        return h;
    }
}
