public final class Promise02First {
    private static final Check CHECK = new Check();

    public static void main(String[] args) {
        theFirstIsReadyInPlaceZero();
        onlyAnEmptyRingTakesAFirst();
        allBeginsAnew();
        theLookBeginsAtPlaceZeroAgain();
        aRefusedFirstChangesNothing();
        nothingOfTheOnesBeforeIsKept();
        CHECK.end();
    }

    private static void theFirstIsReadyInPlaceZero() {
        ProcRing ring = new ProcRing(1);
        CHECK.due("first()", ring.first(), true);
        CHECK.process("first", ring, 0, 1, 1, 0, 0, 0, ProcRing.NONE);
        CHECK.due("count(0)", ring.count(0), 1);
        CHECK.due("tick()", ring.tick(), 1);
    }

    private static void onlyAnEmptyRingTakesAFirst() {
        ProcRing ring = new ProcRing(1);
        ring.first();
        CHECK.due("READY: first()", ring.first(), false);
        ring.pick(0);
        CHECK.due("ON: first()", ring.first(), false);
        ring.block(0, 1);
        CHECK.due("BLOCKED: first()", ring.first(), false);
        ring.kill(1);
        CHECK.due("KILLED: first()", ring.first(), false);
        CHECK.process("a first() in vain changes nothing", ring, 0, 1, 1, 0, 1, 0, ProcRing.NONE);
        CHECK.due("tick()", ring.tick(), 1);
        CHECK.due("first()", ring.first(), false);
        CHECK.due("a first() in vain leaves the ticks: tick()", ring.tick(), 2);
    }

    private static void allBeginsAnew() {
        ProcRing ring = Rings.withChildren(2, 5);
        ring.tick();
        ring.tick();
        ring.kill(1);
        ring.pick(0);
        ring.pick(1);
        ring.block(1, 3);
        for (int i = 0; i < 20 && ring.pick(0) != 0; i++) {
            ring.rest(0);
        }
        CHECK.due("exit(0, 8)", ring.exit(0, 8), 0);
        CHECK.due("again: first()", ring.first(), true);
        CHECK.process("again", ring, 0, 1, 1, 0, 0, 0, ProcRing.NONE);
        CHECK.due("again: status() stays", ring.status(), 8);
        CHECK.due("again: count(0)", ring.count(0), 1);
        CHECK.due("again: wake(3)", ring.wake(3), 0);
        CHECK.due("again: tick()", ring.tick(), 1);
        CHECK.due("again: pick(0)", ring.pick(0), 0);
        CHECK.due("again: fork(0)", ring.fork(0), 1);
        CHECK.process("again, its child", ring, 1, 2, 1, 1, 0, 0, ProcRing.NONE);
    }

    private static void theLookBeginsAtPlaceZeroAgain() {
        ProcRing ring = Rings.withChildren(2, 3);
        ring.pick(1);
        ring.rest(1);
        ring.pick(1);
        ring.exit(0, 0);
        ring.first();
        CHECK.due("pick(1)", ring.pick(1), 0);
        ring.fork(1);
        ring.rest(1);
        CHECK.due("pick(0)", ring.pick(0), 1);
        CHECK.due("pick(1)", ring.pick(1), 0);
    }

    private static void aRefusedFirstChangesNothing() {
        Twins.unchanged(CHECK, "READY: first()", () -> {
            ProcRing ring = new ProcRing(2);
            ring.first();
            return ring;
        }, ring -> ring.first() ? 1 : 0, 0);
        Twins.unchanged(CHECK, "ON: first()", Rings::busy, ring -> ring.first() ? 1 : 0, 0);
        Twins.unchanged(CHECK, "on a channel: first()", () -> {
            ProcRing ring = Rings.busy();
            ring.block(1, 5);
            return ring;
        }, ring -> ring.first() ? 1 : 0, 0);
        Twins.unchanged(CHECK, "full: first()", Rings::full, ring -> ring.first() ? 1 : 0, 0);
    }

    private static void nothingOfTheOnesBeforeIsKept() {
        ProcRing ring = Rings.emptied();
        CHECK.due("after an end: first()", ring.first(), true);
        CHECK.due("pick(2)", ring.pick(2), 0);
        for (int place = 1; place <= 14; place++) {
            CHECK.due("fork(2)", ring.fork(2), place);
            CHECK.process("anew", ring, place, place + 1, 1, 1, 0, 0, ProcRing.NONE);
        }
        CHECK.due("wake(5)", ring.wake(5), 0);
        for (int tick = 1; tick <= 4; tick++) {
            CHECK.due("tick()", ring.tick(), tick);
            CHECK.due("count(1)", ring.count(1), 15);
        }
    }
}
