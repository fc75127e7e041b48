/** Plates that several tests begin with. */
final class Plates {
    private Plates() { }

    /** Lines drawn and nothing more. */
    static EtchedPlate withLines(int count) {
        EtchedPlate x = new EtchedPlate();
        for (int k = 0; k < count; k++) {
            x.draw();
        }
        return x;
    }

    /** One line for each depth, with strength 1 and no varnish. */
    static EtchedPlate withDepths(int... depths) {
        EtchedPlate x = withLines(depths.length);
        x.setStrength(1);
        for (int k = 0; k < depths.length; k++) {
            x.clean();
            x.varnish(allOf(depths.length) - (1 << k));
            x.dip(depths[k]);
        }
        x.clean();
        return x;
    }

    /** The same as withDepths, and then the given strength. */
    static EtchedPlate withStrength(int strength, int... depths) {
        EtchedPlate x = withDepths(depths);
        x.setStrength(strength);
        return x;
    }

    static EtchedPlate pulled(EtchedPlate x, int prints) {
        for (int k = 0; k < prints; k++) {
            x.pull();
        }
        return x;
    }

    static EtchedPlate aimed(EtchedPlate x, int... tones) {
        for (int line = 0; line < tones.length; line++) {
            x.setTarget(line, tones[line]);
        }
        return x;
    }

    static EtchedPlate undone(EtchedPlate x, int times) {
        for (int k = 0; k < times; k++) {
            x.undo();
        }
        return x;
    }

    /** The same plate, but none of its saved states is left: others pushed them out and are used up. */
    static EtchedPlate withNothingSaved(EtchedPlate x) {
        for (int k = 0; k < 5; k++) {
            x.clean();
        }
        return undone(x, 5);
    }

    /** Ten lines, some of them varnished, twelve prints, five saved states, and a plan. */
    static EtchedPlate full() {
        EtchedPlate x = withDepths(0, 9, 10, 19, 25, 47, 80, 89, 98, 99);
        for (int state = 0; state < 4; state++) {
            x.burnish(state + 3, 11);
            pulled(x, 3);
        }
        x.setStrength(3);
        x.varnish(0b1000100101);
        return aimed(x, 1, 2, 3, 4, 5, 6, 7, 8, 9, 9);
    }

    /** The bit set of the first so many lines or prints. */
    static int allOf(int count) {
        return (1 << count) - 1;
    }
}
