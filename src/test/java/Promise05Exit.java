public final class Promise05Exit {
    private static final Check CHECK = new Check();

    public static void main(String[] args) {
        aZombieWithAStatus();
        childrenAreHandedOn();
        theParentIsWaiting();
        theFirstIsGivenAZombie();
        theFirstIsGivenALivingOne();
        whoWaitsForOtherThingsGoesOnWaiting();
        anotherParentGoesOnWaiting();
        theEndOfTheFirst();
        inTheLastPlace();
        aWaitForOtherThingsOutlastsAGift();
        aChildlessOneHandsOnNobody();
        noSuchProcess();
        CHECK.end();
    }

    private static void aZombieWithAStatus() {
        int[] statuses = {0, 7, -1, Integer.MIN_VALUE, Integer.MAX_VALUE};
        for (int status : statuses) {
            ProcRing ring = Rings.withChildren(2, 1);
            ring.pick(1);
            CHECK.due("exit(1, " + status + ")", ring.exit(1, status), 1);
            CHECK.process("ended", ring, 1, 2, 4, 1, 0, status, ProcRing.NONE);
            CHECK.due("its processor has none: rest(1)", ring.rest(1), ProcRing.NONE);
            CHECK.due("not awaited yet: status()", ring.status(), 0);
        }
    }

    private static void childrenAreHandedOn() {
        ProcRing ring = Rings.withChainOfFour();
        ring.fork(1);
        CHECK.due("exit(2, 5)", ring.exit(2, 5), 2);
        CHECK.process("the child of 3", ring, 3, 4, 2, 1, 0, 0, 3);
        CHECK.process("3 is still 2's", ring, 2, 3, 4, 2, 0, 5, ProcRing.NONE);
        CHECK.due("exit(1, 6)", ring.exit(1, 6), 1);
        CHECK.process("zombies, too", ring, 2, 3, 4, 1, 0, 5, ProcRing.NONE);
        CHECK.process("the READY one", ring, 4, 5, 1, 1, 0, 0, ProcRing.NONE);
        CHECK.process("2 itself", ring, 1, 2, 4, 1, 0, 6, ProcRing.NONE);
    }

    private static void theParentIsWaiting() {
        ProcRing ring = Rings.withChainOfFour();
        ring.await(2);
        ring.await(0);
        CHECK.due("exit(3, 9)", ring.exit(3, 9), 3);
        CHECK.process("the parent", ring, 2, 3, 1, 2, 0, 0, ProcRing.NONE);
        CHECK.process("the first is not its parent", ring, 0, 1, 3, 0, 0, 0, ProcRing.NONE);
        CHECK.process("it is not gone before it is awaited", ring, 3, 4, 4, 3, 0, 9, ProcRing.NONE);
    }

    private static void theFirstIsGivenAZombie() {
        ProcRing ring = Rings.withChainOfFour();
        ring.exit(3, 1);
        ring.await(0);
        ring.await(1);
        CHECK.due("exit(2, 2)", ring.exit(2, 2), 2);
        CHECK.due("given the zombie 4: about(0, 1)", ring.about(0, 1), 1);
        CHECK.due("told of 3: about(1, 1)", ring.about(1, 1), 1);
        CHECK.due("about(3, 2)", ring.about(3, 2), 1);
        CHECK.due("pick(0)", ring.pick(0), 0);
        CHECK.due("await(0)", ring.await(0), 4);
    }

    private static void theFirstIsGivenALivingOne() {
        ProcRing ring = Rings.withChainOfFour();
        ring.await(0);
        ring.exit(2, 2);
        CHECK.due("about(3, 2)", ring.about(3, 2), 1);
        CHECK.due("goes on waiting: about(0, 1)", ring.about(0, 1), 3);
        ring.exit(3, 3);
        CHECK.due("its end is waited for: about(0, 1)", ring.about(0, 1), 1);
    }

    private static void whoWaitsForOtherThingsGoesOnWaiting() {
        ProcRing ring = Rings.withChildren(2, 2);
        ring.block(0, 0);
        ring.pick(1);
        ring.exit(1, 0);
        CHECK.due("on a channel: about(0, 1)", ring.about(0, 1), 3);
        ring.wake(0);
        ring.pick(0);
        CHECK.due("pick(0)", ring.pick(0), 2);
        ring.pick(1);
        ring.sleep(1, 3);
        ring.exit(0, 0);
        CHECK.due("for a time: about(0, 1)", ring.about(0, 1), 3);
    }

    private static void anotherParentGoesOnWaiting() {
        ProcRing ring = Rings.withChainOfFour();
        ring.fork(0);
        ring.await(1);
        ring.block(2, 1);
        ring.block(0, 1);
        CHECK.due("pick(0)", ring.pick(0), 4);
        ring.exit(0, 0);
        CHECK.due("no child of 2's: about(1, 1)", ring.about(1, 1), 3);
    }

    private static void theEndOfTheFirst() {
        ProcRing ring = Rings.withChainOfFour();
        ring.fork(0);
        ring.exit(3, 4);
        ring.block(2, 4);
        ring.kill(2);
        CHECK.due("exit(0, 12)", ring.exit(0, 12), 0);
        CHECK.emptyRing("the first has ended", ring);
        CHECK.due("status()", ring.status(), 12);
        CHECK.due("wake(4)", ring.wake(4), 0);
        CHECK.due("kill(2)", ring.kill(2), false);
        CHECK.due("its processors have none: rest(1)", ring.rest(1), ProcRing.NONE);
        CHECK.due("first()", ring.first(), true);
        CHECK.due("rest(1)", ring.rest(1), ProcRing.NONE);
    }

    private static void inTheLastPlace() {
        ProcRing ring = Rings.withLastPlaceOn();
        CHECK.due("exit(1, 3)", ring.exit(1, 3), 14);
        CHECK.process("ended", ring, 14, 15, 4, 1, 0, 3, ProcRing.NONE);
        ring.exit(0, 0);
        CHECK.emptyRing("a full ring's end", ring);

        ProcRing other = Rings.withChildren(2, 13);
        other.pick(1);
        CHECK.due("fork(1)", other.fork(1), 14);
        other.exit(1, 0);
        CHECK.due("handed on: about(14, 2)", other.about(14, 2), 1);
    }

    private static void noSuchProcess() {
        CHECK.due("empty: exit(0, 1)", new ProcRing(4).exit(0, 1), ProcRing.NONE);
        Twins.refused(CHECK, "none on it: exit(2, 3)", Rings::busy, ring -> ring.exit(2, 3));
        for (int processor : Rings.NO_PROCESSORS_OF_FOUR) {
            Twins.refused(CHECK, "exit(" + processor + ", 3)", () -> Rings.withChildren(4, 1),
                ring -> ring.exit(processor, 3));
        }
    }

    private static void aWaitForOtherThingsOutlastsAGift() {
        ProcRing onAChannel = Rings.withChainOfFour();
        onAChannel.exit(3, 1);
        onAChannel.block(0, 1);
        onAChannel.exit(2, 2);
        CHECK.due("given the zombie 4, on a channel: about(0, 1)", onAChannel.about(0, 1), 3);
        ProcRing asleep = Rings.withChainOfFour();
        asleep.exit(3, 1);
        asleep.sleep(0, 9);
        asleep.exit(2, 2);
        CHECK.due("given the zombie 4, asleep: about(0, 1)", asleep.about(0, 1), 3);
        CHECK.due("about(3, 2)", asleep.about(3, 2), 1);
    }

    private static void aChildlessOneHandsOnNobody() {
        ProcRing ring = Rings.withChainOfFour();
        CHECK.due("exit(3, 0)", ring.exit(3, 0), 3);
        int[] parents = {0, 1, 2, 3};
        for (int place = 0; place < 4; place++) {
            CHECK.due("about(" + place + ", 2)", ring.about(place, 2), parents[place]);
        }
    }
}
