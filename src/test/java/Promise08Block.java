public final class Promise08Block {
    private static final Check CHECK = new Check();

    public static void main(String[] args) {
        blockedUntilItsChannelIsWoken();
        aChannelIsAnyInt();
        aKilledOneCanBeBlocked();
        theFirstCanBeBlockedLikeAnother();
        inTheLastPlace();
        noSuchProcess();
        CHECK.end();
    }

    private static void blockedUntilItsChannelIsWoken() {
        ProcRing ring = Rings.withChildren(2, 1);
        ring.pick(1);
        CHECK.due("block(1, 9)", ring.block(1, 9), 1);
        CHECK.process("blocked", ring, 1, 2, 3, 1, 0, 0, ProcRing.NONE);
        CHECK.due("pick(1)", ring.pick(1), ProcRing.NONE);
        for (int i = 1; i <= 12; i++) {
            CHECK.due("tick()", ring.tick(), i);
        }
        CHECK.due("no tick ends it: about(1, 1)", ring.about(1, 1), 3);
        CHECK.due("wake(9)", ring.wake(9), 1);
        CHECK.due("about(1, 1)", ring.about(1, 1), 1);
    }

    private static void aChannelIsAnyInt() {
        int[] channels = {0, ProcRing.NONE, 1, Integer.MIN_VALUE, Integer.MAX_VALUE};
        for (int channel : channels) {
            ProcRing ring = Rings.withFirstOn(1);
            CHECK.due("block(0, " + channel + ")", ring.block(0, channel), 0);
            CHECK.due("wake(" + (channel + 1) + ")", ring.wake(channel + 1), 0);
            CHECK.due("wake(" + channel + ")", ring.wake(channel), 1);
        }
    }

    private static void aKilledOneCanBeBlocked() {
        ProcRing ring = Rings.withFirstOn(1);
        ring.kill(1);
        CHECK.due("block(0, 2)", ring.block(0, 2), 0);
        CHECK.process("killed before", ring, 0, 1, 3, 0, 1, 0, ProcRing.NONE);
    }

    private static void noSuchProcess() {
        CHECK.due("empty: block(0, 1)", new ProcRing(4).block(0, 1), ProcRing.NONE);
        Twins.refused(CHECK, "none on it: block(2, 1)", Rings::busy, ring -> ring.block(2, 1));
        for (int processor : Rings.NO_PROCESSORS_OF_FOUR) {
            Twins.refused(CHECK, "block(" + processor + ", 1)", () -> Rings.withChildren(4, 1),
                ring -> ring.block(processor, 1));
        }
    }

    private static void theFirstCanBeBlockedLikeAnother() {
        ProcRing ring = Rings.withFirstOn(1);
        CHECK.due("block(0, 3)", ring.block(0, 3), 0);
        CHECK.process("all are BLOCKED", ring, 0, 1, 3, 0, 0, 0, ProcRing.NONE);
        CHECK.due("the ring is not empty: first()", ring.first(), false);
        CHECK.due("pick(0)", ring.pick(0), ProcRing.NONE);
    }

    private static void inTheLastPlace() {
        ProcRing ring = Rings.withLastPlaceOn();
        CHECK.due("block(1, 14)", ring.block(1, 14), 14);
        CHECK.due("wake(13)", ring.wake(13), 0);
        CHECK.due("wake(14)", ring.wake(14), 1);
        CHECK.due("about(14, 1)", ring.about(14, 1), 1);
    }
}
