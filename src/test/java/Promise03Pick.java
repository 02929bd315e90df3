public final class Promise03Pick {
    private static final Check CHECK = new Check();

    public static void main(String[] args) {
        whoHasOneKeepsIt();
        inTurnRoundTheTable();
        behindTheOneTakenLastByAnyProcessor();
        onlyReadyOnesAreTaken();
        wrongProcessors();
        CHECK.end();
    }

    private static void whoHasOneKeepsIt() {
        ProcRing ring = Rings.withChildren(2, 2);
        CHECK.due("pick(0)", ring.pick(0), 0);
        CHECK.due("pick(1)", ring.pick(1), 1);
        CHECK.due("pick(1)", ring.pick(1), 1);
        CHECK.due("pick(0)", ring.pick(0), 0);
        ring.rest(1);
        CHECK.due("an answer is no taking: pick(1)", ring.pick(1), 2);
        CHECK.process("taken", ring, 2, 3, 2, 1, 0, 0, 1);
    }

    private static void inTurnRoundTheTable() {
        ProcRing ring = Rings.withChildren(1, 14);
        for (int turn = 1; turn <= 32; turn++) {
            ring.rest(0);
            CHECK.due("turn " + turn + ": pick(0)", ring.pick(0), turn % 15);
        }
    }

    private static void behindTheOneTakenLastByAnyProcessor() {
        ProcRing ring = Rings.withChildren(3, 4);
        CHECK.due("pick(2)", ring.pick(2), 1);
        CHECK.due("pick(1)", ring.pick(1), 2);
        ring.rest(2);
        CHECK.due("pick(2)", ring.pick(2), 3);
        ring.rest(1);
        CHECK.due("pick(1)", ring.pick(1), 4);
        ring.rest(0);
        CHECK.due("round: pick(0)", ring.pick(0), 0);
        ProcRing alone = Rings.withFirstOn(1);
        alone.rest(0);
        CHECK.due("the one taken last itself: pick(0)", alone.pick(0), 0);
    }

    private static void onlyReadyOnesAreTaken() {
        ProcRing ring = Rings.withChildren(4, 3);
        ring.pick(1);
        ring.exit(1, 0);
        ring.pick(1);
        ring.block(1, 0);
        ring.pick(1);
        ring.sleep(1, 5);
        CHECK.due("none READY: pick(1)", ring.pick(1), ProcRing.NONE);
        CHECK.due("none READY: pick(3)", ring.pick(3), ProcRing.NONE);
        ring.rest(0);
        CHECK.due("pick(3)", ring.pick(3), 0);
        ring.kill(3);
        CHECK.due("a killed one is taken like another: pick(1)", ring.pick(1), 2);
    }

    private static void wrongProcessors() {
        ProcRing ring = Rings.withChildren(4, 3);
        for (int processor : Rings.NO_PROCESSORS_OF_FOUR) {
            CHECK.due("pick(" + processor + ")", ring.pick(processor), ProcRing.NONE);
        }
        CHECK.due("count(1)", ring.count(1), 3);
    }
}
