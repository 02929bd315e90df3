/** Rings that many tests begin with. */
final class Rings {
    static final int[] NO_PROCESSORS_OF_FOUR = {-1, 4, 5, Integer.MIN_VALUE, Integer.MAX_VALUE};

    private Rings() { }

    /** Process 1 is on processor 0. */
    static ProcRing withFirstOn(int processors) {
        ProcRing ring = new ProcRing(processors);
        ring.first();
        ring.pick(0);
        return ring;
    }

    /** Process 1 is on processor 0; its children 2 .. children + 1 are READY in the places 1 .. children. */
    static ProcRing withChildren(int processors, int children) {
        ProcRing ring = withFirstOn(processors);
        for (int i = 0; i < children; i++) {
            ring.fork(0);
        }
        return ring;
    }

    /** Processes 1, 2, 3, 4, each the child of the one before, in places and on processors 0 .. 3. */
    static ProcRing withChainOfFour() {
        ProcRing ring = withFirstOn(4);
        for (int processor = 0; processor < 3; processor++) {
            ring.fork(processor);
            ring.pick(processor + 1);
        }
        return ring;
    }

    /** Full: process 1 is on processor 0, its child 15 in place 14 on processor 1, the others are READY. */
    static ProcRing withLastPlaceOn() {
        ProcRing ring = withChildren(2, 14);
        for (int turn = 0; turn < 15 && ring.pick(1) != 14; turn++) {
            ring.rest(1);
        }
        return ring;
    }

    /** Full: process 1 is on the only processor, its children 2 .. 15 are READY. */
    static ProcRing full() {
        return withChildren(1, 14);
    }

    /**
     * Three processors and every state. ON: 6 (killed, place 5, processor 0) and 1 (place 0, processor 1).
     * BLOCKED: 2 (place 1) for its child 8, 3 (place 2) on channel 5, 4 (place 3) for three ticks.
     * ZOMBIE: 5 (place 4, status 44). READY: 7 and 8 (places 6 and 7). All but 8 are 1's children; one tick is past,
     * and place 6 was taken last.
     */
    static ProcRing busy() {
        ProcRing ring = withChildren(3, 6);
        ring.tick();
        ring.pick(0);
        ring.fork(0);
        ring.await(0);
        ring.pick(0);
        ring.block(0, 5);
        ring.pick(0);
        ring.sleep(0, 3);
        ring.pick(0);
        ring.exit(0, 44);
        ring.pick(0);
        ring.kill(6);
        for (int turn = 0; turn < 3 && ring.pick(1) != 0; turn++) {
            ring.rest(1);
        }
        ring.pick(2);
        ring.rest(2);
        return ring;
    }

    /** Empty again: busy(), and then process 1 has ended with the status 9. */
    static ProcRing emptied() {
        ProcRing ring = busy();
        ring.exit(1, 9);
        return ring;
    }
}
