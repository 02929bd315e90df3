public final class Promise06Await {
    private static final Check CHECK = new Check();

    public static void main(String[] args) {
        theFirstZombieByPlaces();
        blockedUntilAChildEnds();
        onlyItsOwnChildren();
        noChildren();
        aChildInTheLastPlace();
        onlyAChildsEndOrAKillEndsIt();
        aChildThatEndedBefore();
        noSuchProcess();
        CHECK.end();
    }

    private static void theFirstZombieByPlaces() {
        ProcRing ring = Rings.withChildren(4, 4);
        ring.pick(1);
        ring.pick(2);
        ring.pick(3);
        ring.exit(3, 33);
        ring.exit(2, 22);
        CHECK.due("await(0)", ring.await(0), 3);
        CHECK.due("status()", ring.status(), 22);
        CHECK.due("its place is free: about(2, 1)", ring.about(2, 1), 0);
        CHECK.due("its place is free: about(2, 0)", ring.about(2, 0), ProcRing.NONE);
        CHECK.due("it goes on: about(0, 5)", ring.about(0, 5), 0);
        ring.fork(0);
        ring.rest(1);
        for (int turn = 0; turn < 15 && ring.pick(1) != 2; turn++) {
            ring.rest(1);
        }
        ring.exit(1, 66);
        CHECK.due("by places, not by numbers: await(0)", ring.await(0), 6);
        CHECK.due("await(0)", ring.await(0), 4);
        CHECK.due("count(0)", ring.count(0), 3);
    }

    private static void blockedUntilAChildEnds() {
        ProcRing ring = Rings.withChildren(2, 2);
        CHECK.due("await(0)", ring.await(0), 0);
        CHECK.process("waiting", ring, 0, 1, 3, 0, 0, 0, ProcRing.NONE);
        CHECK.due("its processor has none: rest(0)", ring.rest(0), ProcRing.NONE);
        CHECK.due("pick(0)", ring.pick(0), 1);
        ring.exit(0, 4);
        CHECK.due("about(0, 1)", ring.about(0, 1), 1);
        ring.pick(1);
        CHECK.due("pick(0)", ring.pick(0), 0);
        CHECK.due("await(0)", ring.await(0), 2);
        CHECK.due("await(0)", ring.await(0), 0);
        CHECK.due("exit(1, 5)", ring.exit(1, 5), 2);
        CHECK.due("pick(0)", ring.pick(0), 0);
        CHECK.due("await(0)", ring.await(0), 3);
        CHECK.due("none is left: await(0)", ring.await(0), ProcRing.NONE);
        CHECK.due("it goes on: about(0, 1)", ring.about(0, 1), 2);
    }

    private static void onlyItsOwnChildren() {
        ProcRing ring = Rings.withChainOfFour();
        ring.exit(3, 3);
        CHECK.due("a grandchild's end: await(1)", ring.await(1), 0);
        CHECK.due("await(2)", ring.await(2), 4);
    }

    private static void noChildren() {
        ProcRing ring = Rings.withChainOfFour();
        CHECK.due("await(3)", ring.await(3), ProcRing.NONE);
        CHECK.due("it goes on: about(3, 5)", ring.about(3, 5), 3);
        ring.exit(2, 0);
        CHECK.due("children that were handed on: await(0)", ring.await(0), 0);
        Twins.refused(CHECK, "no children: await(0)", Rings::busy, busy -> busy.await(0));
        Twins.refused(CHECK, "the only one: await(0)", () -> Rings.withFirstOn(1), alone -> alone.await(0));
    }

    private static void aChildThatEndedBefore() {
        ProcRing ring = Rings.busy();
        CHECK.due("place 4 alone has a zombie: await(1)", ring.await(1), 5);
        CHECK.due("status()", ring.status(), 44);
        CHECK.due("its place is free: fork(1)", ring.fork(1), 4);
        CHECK.due("the others live: await(1)", ring.await(1), 0);
        CHECK.due("about(0, 1)", ring.about(0, 1), 3);
    }

    private static void aChildInTheLastPlace() {
        ProcRing ring = Rings.withLastPlaceOn();
        ring.exit(1, 3);
        CHECK.due("the only zombie: await(0)", ring.await(0), 15);
        CHECK.due("about(14, 1)", ring.about(14, 1), 0);

        ProcRing other = Rings.withChildren(2, 13);
        other.pick(1);
        CHECK.due("fork(1)", other.fork(1), 14);
        CHECK.due("the only child: await(1)", other.await(1), 0);
    }

    private static void onlyAChildsEndOrAKillEndsIt() {
        ProcRing ring = Rings.withChildren(1, 1);
        ring.await(0);
        for (int channel = -2; channel < 16; channel++) {
            CHECK.due("wake(" + channel + ")", ring.wake(channel), 0);
        }
        ring.tick();
        ring.tick();
        CHECK.due("about(0, 1)", ring.about(0, 1), 3);
        CHECK.due("kill(1)", ring.kill(1), true);
        CHECK.due("about(0, 1)", ring.about(0, 1), 1);
    }

    private static void noSuchProcess() {
        CHECK.due("empty: await(0)", new ProcRing(4).await(0), ProcRing.NONE);
        Twins.refused(CHECK, "none on it: await(2)", Rings::busy, ring -> ring.await(2));
        for (int processor : Rings.NO_PROCESSORS_OF_FOUR) {
            Twins.refused(CHECK, "await(" + processor + ")", () -> Rings.withChildren(4, 1),
                ring -> ring.await(processor));
        }
    }
}
