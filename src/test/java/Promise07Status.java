public final class Promise07Status {
    private static final Check CHECK = new Check();

    public static void main(String[] args) {
        ofWhatWasAwaitedLatest();
        ofTheFirstsEnd();
        zeroIsAStatusToo();
        othersEndsAndRefusedCallsLeaveIt();
        CHECK.end();
    }

    private static void ofWhatWasAwaitedLatest() {
        ProcRing ring = Rings.withChildren(4, 4);
        CHECK.due("at first: status()", ring.status(), 0);
        ring.pick(1);
        ring.pick(2);
        ring.pick(3);
        ring.exit(1, -11);
        ring.exit(2, Integer.MIN_VALUE);
        CHECK.due("ended, not awaited: status()", ring.status(), 0);
        ring.await(0);
        CHECK.due("status()", ring.status(), -11);
        CHECK.due("status()", ring.status(), -11);
        ring.exit(3, 33);
        CHECK.due("status()", ring.status(), -11);
        ring.await(0);
        CHECK.due("status()", ring.status(), Integer.MIN_VALUE);
        ring.await(0);
        CHECK.due("status()", ring.status(), 33);
        CHECK.due("await(0)", ring.await(0), 0);
        CHECK.due("an await() in vain: status()", ring.status(), 33);
        CHECK.due("await(2)", ring.await(2), ProcRing.NONE);
        CHECK.due("an await() of none: status()", ring.status(), 33);
    }

    private static void ofTheFirstsEnd() {
        ProcRing ring = Rings.withChildren(2, 1);
        ring.pick(1);
        ring.exit(1, 5);
        ring.await(0);
        ring.exit(0, 6);
        CHECK.due("status()", ring.status(), 6);
        ring.first();
        CHECK.due("a new first: status()", ring.status(), 6);
        ring.pick(0);
        ring.fork(0);
        ring.pick(1);
        ring.exit(1, 0);
        CHECK.due("status()", ring.status(), 6);
        ring.await(0);
        CHECK.due("status()", ring.status(), 0);
    }

    private static ProcRing withStatusFive() {
        ProcRing ring = Rings.withChildren(2, 2);
        ring.pick(1);
        ring.exit(1, 5);
        ring.await(0);
        return ring;
    }

    private static void zeroIsAStatusToo() {
        ProcRing awaited = withStatusFive();
        awaited.pick(1);
        awaited.exit(1, 0);
        CHECK.due("before it is awaited: status()", awaited.status(), 5);
        awaited.await(0);
        CHECK.due("awaited: status()", awaited.status(), 0);
        ProcRing ended = withStatusFive();
        ended.exit(0, 0);
        CHECK.due("the first's end: status()", ended.status(), 0);
    }

    private static void othersEndsAndRefusedCallsLeaveIt() {
        ProcRing ring = withStatusFive();
        ring.pick(1);
        CHECK.due("none on it: await(2)", ring.await(2), ProcRing.NONE);
        CHECK.due("no children: await(1)", ring.await(1), ProcRing.NONE);
        CHECK.due("status()", ring.status(), 5);
        ring.exit(1, 8);
        CHECK.due("another's end: status()", ring.status(), 5);
        ring.exit(1, 9);
        CHECK.due("a refused exit(): status()", ring.status(), 5);
        Twins.unchanged(CHECK, "status()", Promise07Status::withStatusFive, same -> same.status(), 5);
    }
}
