public final class Promise10Wake {
    private static final Check CHECK = new Check();

    public static void main(String[] args) {
        allOnTheChannel();
        nobodyElse();
        nobodyThere();
        aWokenOneIsNotOnAProcessor();
        CHECK.end();
    }

    private static void allOnTheChannel() {
        ProcRing ring = Rings.withChildren(1, 14);
        for (int place = 0; place < 15; place++) {
            ring.pick(0);
            ring.block(0, place % 2);
        }
        CHECK.due("count(3)", ring.count(3), 15);
        CHECK.due("wake(2)", ring.wake(2), 0);
        CHECK.due("wake(0)", ring.wake(0), 8);
        for (int place = 0; place < 15; place++) {
            CHECK.due("about(" + place + ", 1)", ring.about(place, 1), place % 2 == 0 ? 1 : 3);
        }
        CHECK.due("woken already: wake(0)", ring.wake(0), 0);
        CHECK.due("wake(1)", ring.wake(1), 7);
        CHECK.due("count(1)", ring.count(1), 15);
    }

    private static void nobodyElse() {
        CHECK.due("empty: wake(0)", new ProcRing(1).wake(0), 0);
        ProcRing ring = Rings.withChildren(4, 4);
        ring.pick(1);
        ring.pick(2);
        ring.pick(3);
        ring.exit(1, 5);
        ring.sleep(2, 5);
        ring.block(3, 5);
        ring.kill(4);
        CHECK.due("READY by a kill, ZOMBIE, asleep, ON, READY: wake(5)", ring.wake(5), 0);
        CHECK.due("wake(0)", ring.wake(0), 0);
        CHECK.due("about(1, 1)", ring.about(1, 1), 4);
        CHECK.due("about(2, 1)", ring.about(2, 1), 3);
        ring.pick(3);
        CHECK.due("about(4, 1)", ring.about(4, 1), 2);
        CHECK.due("wake(5)", ring.wake(5), 0);
        CHECK.due("about(4, 1)", ring.about(4, 1), 2);
    }

    private static void nobodyThere() {
        int[] others = {0, 1, 3, 4, 6, 44, -1, -5, 5 + 256, 5 + 65536, Integer.MIN_VALUE, Integer.MIN_VALUE + 5, Integer.MAX_VALUE};
        for (int channel : others) {
            Twins.unchanged(CHECK, "wake(" + channel + ")", Rings::busy, ring -> ring.wake(channel), 0);
            Twins.unchanged(CHECK, "new: wake(" + channel + ")", () -> new ProcRing(3), ring -> ring.wake(channel), 0);
        }
        Twins.unchanged(CHECK, "its one is gone: wake(5)", Rings::emptied, ring -> ring.wake(5), 0);
    }

    private static void aWokenOneIsNotOnAProcessor() {
        ProcRing ring = Rings.busy();
        CHECK.due("wake(5)", ring.wake(5), 1);
        CHECK.process("woken", ring, 2, 3, 1, 1, 0, 0, ProcRing.NONE);
        CHECK.due("behind 6: pick(2)", ring.pick(2), 7);
        ring.rest(2);
        CHECK.due("in its turn: pick(2)", ring.pick(2), 2);
    }
}
