public final class Promise03Pick {
    private static final Check CHECK = new Check();

    public static void main(String[] args) {
        whoHasOneKeepsIt();
        inTurnRoundTheTable();
        behindTheOneTakenLastByAnyProcessor();
        onlyReadyOnesAreTaken();
        roundTheEndToALaterPlace();
        behindAPlaceThatIsFreeNow();
        noneIsReady();
        aPickInVainIsNoTaking();
        whoHasOneTakesNoOther();
        wrongProcessors();
        CHECK.end();
    }

    private static void whoHasOneKeepsIt() {
        ProcRing ring = Rings.withChildren(2, 2);
        CHECK.due("pick(0)", ring.pick(0), 0);
        CHECK.due("pick(1)", ring.pick(1), 1);
        CHECK.due("pick(1)", ring.pick(1), 1);
        CHECK.due("pick(0)", ring.pick(0), 0);
        ring.rest(1);
        CHECK.due("an answer is no taking: pick(1)", ring.pick(1), 2);
        CHECK.process("taken", ring, 2, 3, 2, 1, 0, 0, 1);
    }

    private static void inTurnRoundTheTable() {
        ProcRing ring = Rings.withChildren(1, 14);
        for (int turn = 1; turn <= 32; turn++) {
            ring.rest(0);
            CHECK.due("turn " + turn + ": pick(0)", ring.pick(0), turn % 15);
        }
    }

    private static void behindTheOneTakenLastByAnyProcessor() {
        ProcRing ring = Rings.withChildren(3, 4);
        CHECK.due("pick(2)", ring.pick(2), 1);
        CHECK.due("pick(1)", ring.pick(1), 2);
        ring.rest(2);
        CHECK.due("pick(2)", ring.pick(2), 3);
        ring.rest(1);
        CHECK.due("pick(1)", ring.pick(1), 4);
        ring.rest(0);
        CHECK.due("round: pick(0)", ring.pick(0), 0);
        ProcRing alone = Rings.withFirstOn(1);
        alone.rest(0);
        CHECK.due("the one taken last itself: pick(0)", alone.pick(0), 0);
    }

    private static void onlyReadyOnesAreTaken() {
        ProcRing ring = Rings.withChildren(4, 3);
        ring.pick(1);
        ring.exit(1, 0);
        ring.pick(1);
        ring.block(1, 0);
        ring.pick(1);
        ring.sleep(1, 5);
        CHECK.due("none READY: pick(1)", ring.pick(1), ProcRing.NONE);
        CHECK.due("none READY: pick(3)", ring.pick(3), ProcRing.NONE);
        ring.rest(0);
        CHECK.due("pick(3)", ring.pick(3), 0);
        ring.kill(3);
        CHECK.due("a killed one is taken like another: pick(1)", ring.pick(1), 2);
    }

    private static void roundTheEndToALaterPlace() {
        ProcRing ring = Rings.withLastPlaceOn();
        CHECK.due("place 14 was taken last: pick(1)", ring.pick(1), 14);
        ring.rest(1);
        CHECK.due("0 is ON: pick(1)", ring.pick(1), 1);
        ring.rest(1);
        CHECK.due("pick(1)", ring.pick(1), 2);

        ProcRing atTheEnd = Rings.withLastPlaceOn();
        atTheEnd.block(0, 1);
        CHECK.due("0 is BLOCKED: pick(0)", atTheEnd.pick(0), 1);
    }

    private static void behindAPlaceThatIsFreeNow() {
        ProcRing ring = Rings.withChildren(2, 4);
        ring.pick(1);
        ring.rest(1);
        CHECK.due("pick(1)", ring.pick(1), 2);
        ring.exit(1, 0);
        ring.await(0);
        CHECK.due("2 was taken last: pick(1)", ring.pick(1), 3);
    }

    private static ProcRing withNoneReady() {
        ProcRing ring = Rings.busy();
        ring.pick(2);
        ring.block(2, 5);
        ring.pick(2);
        ring.exit(2, 0);
        return ring;
    }

    private static void noneIsReady() {
        Twins.refused(CHECK, "all are ON, BLOCKED or ZOMBIES: pick(2)", Promise03Pick::withNoneReady, ring -> ring.pick(2));
        CHECK.due("count(1)", withNoneReady().count(1), 0);
        CHECK.due("who has one has it still: pick(0)", withNoneReady().pick(0), 5);
        CHECK.due("empty: pick(0)", new ProcRing(1).pick(0), ProcRing.NONE);
    }

    private static void aPickInVainIsNoTaking() {
        ProcRing ring = Rings.withChildren(2, 4);
        for (int place = 1; place <= 4; place++) {
            CHECK.due("pick(1)", ring.pick(1), place);
            ring.block(1, place == 2 ? 6 : 5);
        }
        ring.wake(6);
        CHECK.due("pick(1)", ring.pick(1), 2);
        ring.block(1, 6);
        CHECK.due("none is READY: pick(1)", ring.pick(1), ProcRing.NONE);
        CHECK.due("no such processor: pick(2)", ring.pick(2), ProcRing.NONE);
        ring.wake(5);
        CHECK.due("behind 2: pick(1)", ring.pick(1), 3);
    }

    private static void whoHasOneTakesNoOther() {
        Twins.unchanged(CHECK, "pick(0)", Rings::busy, ring -> ring.pick(0), 5);
        Twins.unchanged(CHECK, "pick(1)", Rings::busy, ring -> ring.pick(1), 0);
    }

    private static void wrongProcessors() {
        for (int processor : Rings.NO_PROCESSORS_OF_FOUR) {
            Twins.refused(CHECK, "pick(" + processor + ")", () -> Rings.withChildren(4, 3), ring -> ring.pick(processor));
        }
    }
}
