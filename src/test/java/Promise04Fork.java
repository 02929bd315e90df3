public final class Promise04Fork {
    private static final Check CHECK = new Check();

    public static void main(String[] args) {
        theNewOne();
        theFirstFreePlace();
        noPlaceFree();
        nothingOfTheOneBeforeIsKept();
        noSuchProcess();
        CHECK.end();
    }

    private static void theNewOne() {
        ProcRing ring = Rings.withFirstOn(2);
        ring.kill(1);
        CHECK.due("fork(0)", ring.fork(0), 1);
        CHECK.process("a killed one's child", ring, 1, 2, 1, 1, 0, 0, ProcRing.NONE);
        CHECK.process("its parent goes on", ring, 0, 1, 2, 0, 1, 0, 0);
        CHECK.due("pick(1)", ring.pick(1), 1);
        CHECK.due("fork(1)", ring.fork(1), 2);
        CHECK.process("grandchild", ring, 2, 3, 1, 2, 0, 0, ProcRing.NONE);
    }

    private static void theFirstFreePlace() {
        ProcRing ring = Rings.withChildren(2, 4);
        ring.pick(1);
        ring.rest(1);
        ring.pick(1);
        ring.exit(1, 0);
        CHECK.due("a zombie keeps its place: fork(0)", ring.fork(0), 5);
        CHECK.due("await(0)", ring.await(0), 3);
        CHECK.due("fork(0)", ring.fork(0), 2);
        CHECK.due("numbers go on: about(2, 0)", ring.about(2, 0), 7);
        CHECK.due("fork(0)", ring.fork(0), 6);
    }

    private static void noPlaceFree() {
        ProcRing ring = Rings.withChildren(2, 13);
        CHECK.due("the last place: fork(0)", ring.fork(0), 14);
        CHECK.due("full: fork(0)", ring.fork(0), ProcRing.NONE);
        CHECK.due("full: fork(0)", ring.fork(0), ProcRing.NONE);
        CHECK.due("count(0)", ring.count(0), 15);
        ring.pick(1);
        ring.exit(1, 0);
        CHECK.due("full with a zombie: fork(0)", ring.fork(0), ProcRing.NONE);
        ring.await(0);
        CHECK.due("fork(0)", ring.fork(0), 1);
        CHECK.due("no number is lost: about(1, 0)", ring.about(1, 0), 16);
        Twins.refused(CHECK, "full: fork(0)", Rings::full, full -> full.fork(0));
        Twins.refused(CHECK, "full, by one in the last place: fork(1)", Rings::withLastPlaceOn, full -> full.fork(1));
    }

    private static void nothingOfTheOneBeforeIsKept() {
        ProcRing ring = Rings.withChildren(2, 1);
        ring.pick(1);
        ring.block(1, 5);
        ring.kill(2);
        ring.pick(1);
        ring.exit(1, 77);
        ring.await(0);
        ring.fork(0);
        CHECK.process("the next in its place", ring, 1, 3, 1, 1, 0, 0, ProcRing.NONE);
        CHECK.due("wake(5)", ring.wake(5), 0);
    }

    private static void noSuchProcess() {
        CHECK.due("empty: fork(0)", new ProcRing(4).fork(0), ProcRing.NONE);
        Twins.refused(CHECK, "none on it: fork(2)", Rings::busy, ring -> ring.fork(2));
        for (int processor : Rings.NO_PROCESSORS_OF_FOUR) {
            Twins.refused(CHECK, "fork(" + processor + ")", () -> Rings.withFirstOn(4), ring -> ring.fork(processor));
        }
        ProcRing ring = Rings.withFirstOn(4);
        ring.rest(0);
        CHECK.due("READY alone does not fork: fork(0)", ring.fork(0), ProcRing.NONE);
        CHECK.due("count(0)", ring.count(0), 1);
    }
}
