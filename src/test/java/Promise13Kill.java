public final class Promise13Kill {
    private static final Check CHECK = new Check();

    public static void main(String[] args) {
        inEveryState();
        whateverItWaitsFor();
        itKeepsThatUntilItIsGone();
        inTheLastPlace();
        byNumberAndNotByPlace();
        twiceIsOnce();
        noneSuch();
        CHECK.end();
    }

    private static void inEveryState() {
        ProcRing ring = Rings.withChildren(2, 2);
        CHECK.due("ON: kill(1)", ring.kill(1), true);
        CHECK.process("ON", ring, 0, 1, 2, 0, 1, 0, 0);
        CHECK.due("READY: kill(2)", ring.kill(2), true);
        CHECK.process("READY", ring, 1, 2, 1, 1, 1, 0, ProcRing.NONE);
        CHECK.process("another", ring, 2, 3, 1, 1, 0, 0, ProcRing.NONE);
        CHECK.due("twice: kill(2)", ring.kill(2), true);
        ring.pick(1);
        ring.rest(1);
        ring.pick(1);
        ring.exit(1, 4);
        CHECK.due("ZOMBIE: kill(3)", ring.kill(3), false);
        CHECK.process("ZOMBIE", ring, 2, 3, 4, 1, 0, 4, ProcRing.NONE);
    }

    private static void whateverItWaitsFor() {
        ProcRing ring = Rings.withChildren(3, 2);
        ring.pick(1);
        ring.pick(2);
        ring.await(0);
        ring.sleep(1, 5);
        ring.block(2, 5);
        for (int place = 0; place < 3; place++) {
            CHECK.due("kill(" + (place + 1) + ")", ring.kill(place + 1), true);
            CHECK.due("about(" + place + ", 1)", ring.about(place, 1), 1);
            CHECK.due("about(" + place + ", 3)", ring.about(place, 3), 1);
        }
        CHECK.due("count(3)", ring.count(3), 0);
        ring.pick(0);
        ring.block(0, 6);
        CHECK.due("killed, and blocked again: kill(1)", ring.kill(1), true);
        CHECK.due("about(0, 1)", ring.about(0, 1), 1);
    }

    private static void itKeepsThatUntilItIsGone() {
        ProcRing ring = Rings.withChildren(2, 1);
        ring.pick(1);
        ring.kill(2);
        ring.tick();
        CHECK.due("a tick: about(1, 3)", ring.about(1, 3), 1);
        ring.pick(0);
        ring.pick(1);
        CHECK.due("about(1, 5)", ring.about(1, 5), 1);
        ring.exit(1, 3);
        CHECK.process("a killed ZOMBIE", ring, 1, 2, 4, 1, 1, 3, ProcRing.NONE);
        ring.await(0);
        CHECK.due("gone: about(1, 3)", ring.about(1, 3), ProcRing.NONE);
        CHECK.due("gone: kill(2)", ring.kill(2), false);
    }

    private static void inTheLastPlace() {
        ProcRing ring = Rings.withLastPlaceOn();
        ring.block(1, 1);
        CHECK.due("kill(15)", ring.kill(15), true);
        CHECK.process("killed", ring, 14, 15, 1, 1, 1, 0, ProcRing.NONE);
    }

    private static void noneSuch() {
        ProcRing ring = Rings.withChildren(1, 1);
        int[] numbers = {0, -1, 3, 15, Integer.MIN_VALUE, Integer.MAX_VALUE};
        for (int number : numbers) {
            CHECK.due("kill(" + number + ")", ring.kill(number), false);
        }
        CHECK.due("about(0, 3)", ring.about(0, 3), 0);
        CHECK.due("about(1, 3)", ring.about(1, 3), 0);
        for (int number : new int[] {Integer.MIN_VALUE, -1, 0, 9, 10, 15, 16, Integer.MAX_VALUE}) {
            Twins.unchanged(CHECK, "kill(" + number + ")", Rings::busy, busy -> busy.kill(number) ? 1 : 0, 0);
        }
        Twins.unchanged(CHECK, "a ZOMBIE: kill(5)", Rings::busy, busy -> busy.kill(5) ? 1 : 0, 0);
        for (int number = 0; number <= 9; number++) {
            int gone = number;
            Twins.unchanged(CHECK, "gone: kill(" + gone + ")", Rings::emptied, empty -> empty.kill(gone) ? 1 : 0, 0);
        }
        CHECK.due("empty: kill(0)", new ProcRing(1).kill(0), false);
        CHECK.due("empty: kill(1)", new ProcRing(1).kill(1), false);
    }

    private static void byNumberAndNotByPlace() {
        ProcRing ring = Rings.withChildren(2, 2);
        ring.pick(1);
        ring.exit(1, 0);
        ring.await(0);
        ring.fork(0);
        CHECK.due("kill(4)", ring.kill(4), true);
        CHECK.process("4 is in place 1", ring, 1, 4, 1, 1, 1, 0, ProcRing.NONE);
        CHECK.due("the one that was there: kill(2)", ring.kill(2), false);
        CHECK.due("about(2, 3)", ring.about(2, 3), 0);
        CHECK.due("about(0, 3)", ring.about(0, 3), 0);
    }

    private static void twiceIsOnce() {
        Twins.unchanged(CHECK, "ON and killed: kill(6)", Rings::busy, ring -> ring.kill(6) ? 1 : 0, 1);
    }
}
