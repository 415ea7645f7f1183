/** A call on a loom that is made later. */
interface Call {
    long on(SpanLoom loom);

    /** Whether a call that answers a boolean answers true. */
    interface Asked {
        boolean on(SpanLoom loom);
    }

    static Call of(Asked asked) {
        return loom -> asked.on(loom) ? 1 : 0;
    }
}
