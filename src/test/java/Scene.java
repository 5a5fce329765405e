/** Calls of an object: what builds it, or the one call that is looked at. */
interface Scene {
    void on(PinnaceView v);

    /** The same calls on a new object. */
    default PinnaceView built() {
        PinnaceView v = new PinnaceView();
        on(v);
        return v;
    }
}
