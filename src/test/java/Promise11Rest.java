public final class Promise11Rest {
    private static final Check CHECK = new Check();

    public static void main(String[] args) {
        readyAgain();
        inTheLastPlace();
        noSuchProcess();
        CHECK.end();
    }

    private static void readyAgain() {
        ProcRing ring = Rings.withChildren(2, 2);
        ring.pick(1);
        ring.kill(2);
        CHECK.due("rest(1)", ring.rest(1), 1);
        CHECK.process("at rest", ring, 1, 2, 1, 1, 1, 0, ProcRing.NONE);
        CHECK.process("another goes on", ring, 0, 1, 2, 0, 0, 0, 0);
        CHECK.due("once alone: rest(1)", ring.rest(1), ProcRing.NONE);
        CHECK.due("in its turn: pick(1)", ring.pick(1), 2);
        CHECK.due("rest(0)", ring.rest(0), 0);
        CHECK.due("pick(0)", ring.pick(0), 0);
    }

    private static void noSuchProcess() {
        CHECK.due("empty: rest(0)", new ProcRing(4).rest(0), ProcRing.NONE);
        Twins.refused(CHECK, "none on it: rest(2)", Rings::busy, ring -> ring.rest(2));
        for (int processor : Rings.NO_PROCESSORS_OF_FOUR) {
            Twins.refused(CHECK, "rest(" + processor + ")", () -> Rings.withChildren(4, 1),
                ring -> ring.rest(processor));
        }
    }

    private static void inTheLastPlace() {
        ProcRing ring = Rings.withLastPlaceOn();
        CHECK.due("rest(1)", ring.rest(1), 14);
        CHECK.process("at rest", ring, 14, 15, 1, 1, 0, 0, ProcRing.NONE);
    }
}
