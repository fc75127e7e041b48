/** One call of the face. */
interface Call {
    long on(EtchedPlate x);
}
