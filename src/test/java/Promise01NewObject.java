public final class Promise01NewObject {
    private static final Check CHECK = new Check();

    public static void main(String[] args) {
        int[] asked = {Integer.MIN_VALUE, -1, 0, 1, 2, 3, 4, 5, 100, Integer.MAX_VALUE};
        int[] due = {1, 1, 1, 1, 2, 3, 4, 4, 4, 4};
        for (int i = 0; i < asked.length; i++) {
            processors(asked[i], due[i]);
        }
        aNewRingIsEmpty();
        CHECK.end();
    }

    private static void processors(int asked, int due) {
        ProcRing ring = new ProcRing(asked);
        ring.first();
        ring.pick(0);
        for (int i = 0; i < 6; i++) {
            ring.fork(0);
        }
        for (int processor = 0; processor < 6; processor++) {
            int want = processor < due ? processor : ProcRing.NONE;
            CHECK.due("ProcRing(" + asked + "): pick(" + processor + ")", ring.pick(processor), want);
        }
    }

    private static void aNewRingIsEmpty() {
        ProcRing ring = new ProcRing(4);
        CHECK.emptyRing("new", ring);
        CHECK.due("new: status()", ring.status(), 0);
        CHECK.due("new: wake(0)", ring.wake(0), 0);
        CHECK.due("new: kill(0)", ring.kill(0), false);
        CHECK.due("new: kill(1)", ring.kill(1), false);
        CHECK.due("new: first()", ring.first(), true);
    }
}
