public final class Promise07Status {
    private static final Check CHECK = new Check();

    public static void main(String[] args) {
        ofWhatWasAwaitedLatest();
        ofTheFirstsEnd();
        CHECK.end();
    }

    private static void ofWhatWasAwaitedLatest() {
        ProcRing ring = Rings.withChildren(4, 4);
        CHECK.due("at first: status()", ring.status(), 0);
        ring.pick(1);
        ring.pick(2);
        ring.pick(3);
        ring.exit(1, -11);
        ring.exit(2, Integer.MIN_VALUE);
        CHECK.due("ended, not awaited: status()", ring.status(), 0);
        ring.await(0);
        CHECK.due("status()", ring.status(), -11);
        CHECK.due("status()", ring.status(), -11);
        ring.exit(3, 33);
        CHECK.due("status()", ring.status(), -11);
        ring.await(0);
        CHECK.due("status()", ring.status(), Integer.MIN_VALUE);
        ring.await(0);
        CHECK.due("status()", ring.status(), 33);
        CHECK.due("await(0)", ring.await(0), 0);
        CHECK.due("an await() in vain: status()", ring.status(), 33);
        CHECK.due("await(2)", ring.await(2), ProcRing.NONE);
        CHECK.due("an await() of none: status()", ring.status(), 33);
    }

    private static void ofTheFirstsEnd() {
        ProcRing ring = Rings.withChildren(2, 1);
        ring.pick(1);
        ring.exit(1, 5);
        ring.await(0);
        ring.exit(0, 6);
        CHECK.due("status()", ring.status(), 6);
        ring.first();
        CHECK.due("a new first: status()", ring.status(), 6);
        ring.pick(0);
        ring.fork(0);
        ring.pick(1);
        ring.exit(1, 0);
        CHECK.due("status()", ring.status(), 6);
        ring.await(0);
        CHECK.due("status()", ring.status(), 0);
    }
}
