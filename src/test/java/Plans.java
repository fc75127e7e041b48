/** What a plan must be, for the tests that ask for one. */
final class Plans {
    private Plans() { }

    /** The plan has just these dips: the minutes and the varnished lines of each, in turn. */
    static void due(Check check, EtchedPlate x, int... minutesAndVarnish) {
        int count = minutesAndVarnish.length / 2;
        check.due("obstacles()", x.obstacles(), 0);
        check.due("dips()", x.dips(), count);
        for (int dip = 0; dip < count; dip++) {
            check.due("dipMinutes(" + dip + ")", x.dipMinutes(dip), minutesAndVarnish[2 * dip]);
            check.due("dipVarnish(" + dip + ")", x.dipVarnish(dip), minutesAndVarnish[2 * dip + 1]);
        }
        check.due("dipMinutes(" + count + ")", x.dipMinutes(count), -1);
        check.due("dipVarnish(" + count + ")", x.dipVarnish(count), -1);
    }

    /** Whether a line allows a number of minutes, in the document's words. */
    static boolean allows(int depth, int tone, int strength, int minutes) {
        int reached = depth + strength * minutes;
        return reached >= 10 * tone && reached <= 10 * tone + 9;
    }
}
