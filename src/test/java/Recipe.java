/**
 * Makes the same plate each time, by the same calls on a new object. So a test can
 * ask many plates in one state, each within its 512 calls, and no question disturbs another.
 */
interface Recipe {
    EtchedPlate make();

    default Recipe then(Call... calls) {
        return () -> {
            EtchedPlate x = make();
            for (Call call : calls) {
                call.on(x);
            }
            return x;
        };
    }
}
