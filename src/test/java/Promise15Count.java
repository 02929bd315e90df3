public final class Promise15Count {
    private static final Check CHECK = new Check();

    public static void main(String[] args) {
        anEmptyRing();
        everyState();
        busy();
        aFullRing();
        wrongStates();
        CHECK.end();
    }

    private static void counts(String when, ProcRing ring, int... want) {
        for (int state = 0; state < want.length; state++) {
            CHECK.due(when + ": count(" + state + ")", ring.count(state), want[state]);
        }
    }

    private static void anEmptyRing() {
        counts("empty", new ProcRing(3), 0, 0, 0, 0, 0);
        counts("emptied", Rings.emptied(), 0, 0, 0, 0, 0);
    }

    private static void everyState() {
        ProcRing ring = Rings.withChildren(4, 9);
        counts("forked", ring, 10, 9, 1, 0, 0);
        ring.pick(1);
        ring.pick(2);
        ring.pick(3);
        counts("picked", ring, 10, 6, 4, 0, 0);
        ring.block(1, 1);
        ring.sleep(2, 9);
        ring.exit(3, 0);
        counts("blocked, asleep, ended", ring, 10, 6, 1, 2, 1);
        ring.await(0);
        counts("awaited", ring, 9, 6, 1, 2, 0);
        ring.await(0);
        counts("waiting", ring, 9, 6, 0, 3, 0);
        ring.kill(1);
        counts("killed", ring, 9, 7, 0, 2, 0);
    }

    private static void busy() {
        counts("busy", Rings.busy(), 8, 2, 2, 3, 1);
    }

    private static void aFullRing() {
        counts("full", Rings.withChildren(1, 20), 15, 14, 1, 0, 0);
        ProcRing ring = Rings.full();
        for (int place = 0; place < 15; place++) {
            ring.pick(0);
            ring.block(0, 1);
        }
        counts("all BLOCKED", ring, 15, 0, 0, 15, 0);
        ring.wake(1);
        counts("all READY", ring, 15, 15, 0, 0, 0);
        for (int place = 0; place < 15; place++) {
            if (ring.pick(0) == 0) {
                ring.rest(0);
            } else {
                ring.exit(0, 0);
            }
        }
        counts("all but the first are ZOMBIES", ring, 15, 1, 0, 0, 14);
    }

    private static void wrongStates() {
        ProcRing ring = Rings.withChildren(4, 3);
        int[] wrong = {-1, 5, 6, Integer.MIN_VALUE, Integer.MAX_VALUE};
        for (int state : wrong) {
            CHECK.due("count(" + state + ")", ring.count(state), ProcRing.NONE);
            CHECK.due("empty: count(" + state + ")", new ProcRing(1).count(state), ProcRing.NONE);
            Twins.refused(CHECK, "count(" + state + ")", Rings::busy, busy -> busy.count(state));
        }
    }
}
