public final class Promise12Tick {
    private static final Check CHECK = new Check();

    public static void main(String[] args) {
        allAreTakenOff();
        whoseTimeHasCome();
        inTheLastPlace();
        howMany();
        anEmptyRingHasNoTicks();
        whoIsNeitherOnNorAsleepStays();
        CHECK.end();
    }

    private static void allAreTakenOff() {
        ProcRing ring = Rings.withChildren(4, 5);
        ring.pick(1);
        ring.pick(2);
        ring.pick(3);
        CHECK.due("count(2)", ring.count(2), 4);
        CHECK.due("tick()", ring.tick(), 1);
        CHECK.due("count(2)", ring.count(2), 0);
        CHECK.due("count(1)", ring.count(1), 6);
        for (int place = 0; place < 4; place++) {
            CHECK.due("about(" + place + ", 5)", ring.about(place, 5), ProcRing.NONE);
        }
        CHECK.due("its processor has none: fork(0)", ring.fork(0), ProcRing.NONE);
        CHECK.due("a tick takes none: pick(0)", ring.pick(0), 4);
        CHECK.due("pick(2)", ring.pick(2), 5);
        CHECK.due("pick(1)", ring.pick(1), 0);
    }

    private static void whoseTimeHasCome() {
        ProcRing ring = Rings.withChildren(4, 5);
        ring.pick(1);
        ring.pick(2);
        ring.pick(3);
        ring.sleep(0, 1);
        ring.sleep(1, 2);
        ring.sleep(2, 1);
        ring.exit(3, 0);
        ring.pick(0);
        ring.block(0, 1);
        ring.pick(0);
        CHECK.due("tick()", ring.tick(), 1);
        int[] afterOne = {1, 3, 1, 4, 3, 1};
        for (int place = 0; place < 6; place++) {
            CHECK.due("one: about(" + place + ", 1)", ring.about(place, 1), afterOne[place]);
        }
        CHECK.due("tick()", ring.tick(), 2);
        int[] afterTwo = {1, 1, 1, 4, 3, 1};
        for (int place = 0; place < 6; place++) {
            CHECK.due("two: about(" + place + ", 1)", ring.about(place, 1), afterTwo[place]);
        }
    }

    private static void inTheLastPlace() {
        ProcRing ring = Rings.withLastPlaceOn();
        ring.tick();
        CHECK.due("taken off: about(14, 1)", ring.about(14, 1), 1);
        ring = Rings.withLastPlaceOn();
        CHECK.due("sleep(1, 1)", ring.sleep(1, 1), 14);
        ring.tick();
        CHECK.due("its time has come: about(14, 1)", ring.about(14, 1), 1);
    }

    private static void howMany() {
        ProcRing ring = new ProcRing(1);
        CHECK.due("empty: tick()", ring.tick(), ProcRing.NONE);
        CHECK.due("empty: tick()", ring.tick(), ProcRing.NONE);
        ring.first();
        for (int i = 1; i < 100; i++) {
            CHECK.due("tick()", ring.tick(), i);
        }
        ring.pick(0);
        ring.exit(0, 0);
        CHECK.due("empty again: tick()", ring.tick(), ProcRing.NONE);
        ring.first();
        CHECK.due("anew: tick()", ring.tick(), 1);
    }

    private static void anEmptyRingHasNoTicks() {
        Twins.refused(CHECK, "new: tick()", () -> new ProcRing(2), ring -> ring.tick());
        Twins.refused(CHECK, "emptied: tick()", Rings::emptied, ring -> ring.tick());
        ProcRing ring = Rings.withFirstOn(1);
        ring.block(0, 1);
        CHECK.due("not empty, though none can go on: tick()", ring.tick(), 1);
    }

    private static void whoIsNeitherOnNorAsleepStays() {
        ProcRing ring = Rings.busy();
        int[] states = {1, 3, 3, 3, 4, 1, 1, 1};
        for (int tick = 2; tick <= 3; tick++) {
            CHECK.due("tick()", ring.tick(), tick);
            for (int place = 0; place < states.length; place++) {
                CHECK.due("tick " + tick + ": about(" + place + ", 1)", ring.about(place, 1), states[place]);
            }
        }
        CHECK.due("tick()", ring.tick(), 4);
        states[3] = 1;
        for (int place = 0; place < states.length; place++) {
            CHECK.due("tick 4: about(" + place + ", 1)", ring.about(place, 1), states[place]);
        }
        CHECK.due("its status is kept: about(4, 4)", ring.about(4, 4), 44);
    }
}
