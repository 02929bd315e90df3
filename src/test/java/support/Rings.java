/** Rings that many tests begin with. */
final class Rings {
    static final int[] NO_PROCESSORS_OF_FOUR = {-1, 4, 5, Integer.MIN_VALUE, Integer.MAX_VALUE};

    private Rings() { }

    /** Process 1 is on processor 0. */
    static ProcRing withFirstOn(int processors) {
        ProcRing ring = new ProcRing(processors);
        ring.first();
        ring.pick(0);
        return ring;
    }

    /** Process 1 is on processor 0; its children 2 .. children + 1 are READY in the places 1 .. children. */
    static ProcRing withChildren(int processors, int children) {
        ProcRing ring = withFirstOn(processors);
        for (int i = 0; i < children; i++) {
            ring.fork(0);
        }
        return ring;
    }

    /** Processes 1, 2, 3, 4, each the child of the one before, in places and on processors 0 .. 3. */
    static ProcRing withChainOfFour() {
        ProcRing ring = withFirstOn(4);
        for (int processor = 0; processor < 3; processor++) {
            ring.fork(processor);
            ring.pick(processor + 1);
        }
        return ring;
    }

    /** Full: process 1 is on processor 0, its child 15 in place 14 on processor 1, the others are READY. */
    static ProcRing withLastPlaceOn() {
        ProcRing ring = withChildren(2, 14);
        for (int turn = 0; turn < 15 && ring.pick(1) != 14; turn++) {
            ring.rest(1);
        }
        return ring;
    }
}
