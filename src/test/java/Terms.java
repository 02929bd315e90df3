import com.sun.management.ThreadMXBean;
import java.lang.management.ManagementFactory;
import java.util.function.Consumer;
import java.util.function.ToIntFunction;

/** What the document says before its promises. */
public final class Terms {
    private static final Check CHECK = new Check();
    private static final int BLOCKED = 3;
    private static final int READY = 1;

    public static void main(String[] args) {
        aRingServesFiveHundredTwelveCalls();
        aRingsMemoryIsItsOwn();
        aRingsMemoryIsMadeOnce();
        placesGoFromZeroToFourteen();
        processorsGoFromZeroToNMinusOne();
        aProcessIsOnOneProcessorAlone();
        aProcessorThatWasLeftHasNone();
        numbersAreNeverUsedAgain();
        theFirstsParentIsZero();
        killedUntilGone();
        ticksAreCountedFromZero();
        whatEndsAWait();
        aWaitThatIsOverLeavesNothingBehind();
        withTheFirstAllAreGone();
        CHECK.end();
    }

    private static void aRingServesFiveHundredTwelveCalls() {
        ProcRing ticked = new ProcRing(1);
        ticked.first();
        for (int call = 2; call < 512; call++) {
            ticked.tick();
        }
        CHECK.due("call 512: tick()", ticked.tick(), 511);

        ProcRing forked = Rings.withFirstOn(2);
        int number = 2;
        for (int call = 2; call + 5 <= 512; call += 5) {
            CHECK.due("fork(0)", forked.fork(0), 1);
            CHECK.due("pick(1)", forked.pick(1), 1);
            CHECK.due("exit(1)", forked.exit(1, -number), 1);
            CHECK.due("await(0)", forked.await(0), number);
            CHECK.due("status()", forked.status(), -number);
            number++;
        }
        CHECK.due("so many were made", number, 104);
    }

    private static void aRingsMemoryIsItsOwn() {
        ProcRing ring = Rings.busy();
        ProcRing other = new ProcRing(3);
        CHECK.emptyRing("beside a busy one", other);
        other.first();
        other.pick(0);
        other.exit(0, 6);
        CHECK.due("its own status()", ring.status(), 0);
        Twins.alike(CHECK, "beside another", ring, Rings.busy());
    }

    private static void everyCall(ProcRing ring) {
        for (int round = 0; round < 10; round++) {
            ring.first();
            for (int processor = -1; processor < 4; processor++) {
                ring.pick(processor);
                ring.fork(processor);
                ring.await(processor);
                ring.pick(processor);
                ring.kill(processor);
                ring.about(0, processor + 2);
                ring.count(processor);
            }
            ring.sleep(0, 1);
            ring.block(1, 5);
            ring.rest(2);
            ring.exit(2, 1);
            ring.status();
            ring.wake(5);
            ring.tick();
        }
        ring.kill(1);
        ring.tick();
        for (int turn = 0; turn < 15 && ring.count(0) > 0; turn++) {
            ring.pick(0);
            ring.exit(0, 1);
        }
    }

    // The machine may make something of its own in one round or another, so the least of some rounds counts.
    private static void aRingsMemoryIsMadeOnce() {
        ThreadMXBean threads = (ThreadMXBean) ManagementFactory.getThreadMXBean();
        long least = Long.MAX_VALUE;
        for (int round = 0; round < 8; round++) {
            ProcRing ring = new ProcRing(3);
            long before = threads.getCurrentThreadAllocatedBytes();
            everyCall(ring);
            least = Math.min(least, threads.getCurrentThreadAllocatedBytes() - before);
            CHECK.due("all was done: count(0)", ring.count(0), 0);
        }
        CHECK.due("bytes made after the constructor", (int) least, 0);
    }

    private static void placesGoFromZeroToFourteen() {
        ProcRing ring = Rings.withFirstOn(1);
        for (int place = 1; place <= 14; place++) {
            CHECK.due("fork(0)", ring.fork(0), place);
        }
        CHECK.due("there is no place 15: fork(0)", ring.fork(0), ProcRing.NONE);
        CHECK.due("about(0, 0)", ring.about(0, 0), 1);
        CHECK.due("about(14, 0)", ring.about(14, 0), 15);
        CHECK.due("about(15, 0)", ring.about(15, 0), ProcRing.NONE);
        CHECK.due("about(-1, 0)", ring.about(-1, 0), ProcRing.NONE);
    }

    private static ProcRing withAllProcessorsTaken(int processors) {
        ProcRing ring = Rings.withChildren(processors, 5);
        for (int processor = 1; processor < processors; processor++) {
            ring.pick(processor);
        }
        return ring;
    }

    private static void processorsGoFromZeroToNMinusOne() {
        for (int n = 1; n <= 4; n++) {
            int processors = n;
            int last = n - 1;
            CHECK.due(n + " processors: pick(" + last + ")", withAllProcessorsTaken(n).pick(last), last);
            CHECK.due(n + " processors: fork(" + last + ")", withAllProcessorsTaken(n).fork(last), 6);
            CHECK.due(n + " processors: exit(" + last + ")", withAllProcessorsTaken(n).exit(last, 0), last);
            CHECK.due(n + " processors: block(" + last + ")", withAllProcessorsTaken(n).block(last, 0), last);
            CHECK.due(n + " processors: sleep(" + last + ")", withAllProcessorsTaken(n).sleep(last, 1), last);
            CHECK.due(n + " processors: rest(" + last + ")", withAllProcessorsTaken(n).rest(last), last);
            ProcRing parents = withAllProcessorsTaken(n);
            parents.fork(last);
            CHECK.due(n + " processors: await(" + last + ")", parents.await(last), 0);
            for (int none : new int[] {Integer.MIN_VALUE, -2, -1, n, n + 1, 4, 5, Integer.MAX_VALUE}) {
                for (Call call : Call.values()) {
                    Twins.refused(CHECK, n + " processors: " + call + "(" + none + ")",
                        () -> withAllProcessorsTaken(processors), ring -> call.on(ring, none));
                }
            }
        }
    }

    /** The calls that name a processor. */
    private enum Call {
        PICK, FORK, EXIT, AWAIT, BLOCK, SLEEP, SLEEP_NOT, REST;

        int on(ProcRing ring, int processor) {
            switch (this) {
                case PICK: return ring.pick(processor);
                case FORK: return ring.fork(processor);
                case EXIT: return ring.exit(processor, 3);
                case AWAIT: return ring.await(processor);
                case BLOCK: return ring.block(processor, 3);
                case SLEEP: return ring.sleep(processor, 3);
                case SLEEP_NOT: return ring.sleep(processor, 0);
                default: return ring.rest(processor);
            }
        }
    }

    private static void aProcessIsOnOneProcessorAlone() {
        ProcRing ring = Rings.withFirstOn(4);
        for (int processor = 1; processor < 4; processor++) {
            CHECK.due("it is on another: pick(" + processor + ")", ring.pick(processor), ProcRing.NONE);
        }
        CHECK.due("about(0, 5)", ring.about(0, 5), 0);
        ring.fork(0);
        CHECK.due("it has one: pick(0)", ring.pick(0), 0);
        CHECK.due("the other is not on it: about(1, 5)", ring.about(1, 5), ProcRing.NONE);
        CHECK.due("count(2)", ring.count(2), 1);
    }

    private static void aProcessorThatWasLeftHasNone() {
        leftBy("rest", ring -> ring.rest(1));
        leftBy("tick", ring -> ring.tick());
        leftBy("block", ring -> ring.block(1, 5));
        leftBy("sleep", ring -> ring.sleep(1, 5));
        leftBy("await", ring -> ring.await(1));
        leftBy("exit", ring -> ring.exit(1, 5));
        leftBy("the end of all", ring -> ring.exit(0, 5));
    }

    private static void leftBy(String what, ToIntFunction<ProcRing> leave) {
        for (Call call : Call.values()) {
            if (call != Call.PICK) {
                Twins.refused(CHECK, "left by " + what + ": " + call + "(1)", () -> {
                    ProcRing ring = Rings.withChildren(2, 1);
                    ring.pick(1);
                    ring.fork(1);
                    leave.applyAsInt(ring);
                    return ring;
                }, ring -> call.on(ring, 1));
            }
        }
    }

    private static void numbersAreNeverUsedAgain() {
        ProcRing ring = Rings.withChildren(2, 1);
        for (int number = 2; number < 40; number++) {
            CHECK.due("about(1, 0)", ring.about(1, 0), number);
            ring.pick(1);
            ring.exit(1, 0);
            CHECK.due("await(0)", ring.await(0), number);
            CHECK.due("gone: kill(" + number + ")", ring.kill(number), false);
            ring.fork(0);
        }
    }

    private static void theFirstsParentIsZero() {
        ProcRing ring = Rings.withChildren(1, 1);
        CHECK.due("about(0, 2)", ring.about(0, 2), 0);
        CHECK.due("about(1, 2)", ring.about(1, 2), 1);
        CHECK.due("0 is no process: kill(0)", ring.kill(0), false);
    }

    private static void stillKilled(String when, ProcRing ring) {
        CHECK.due(when + ": about(1, 3)", ring.about(1, 3), 1);
        CHECK.due(when + ": the first is not: about(0, 3)", ring.about(0, 3), 0);
    }

    private static void killedUntilGone() {
        ProcRing ring = Rings.withChildren(2, 1);
        ring.kill(2);
        stillKilled("READY", ring);
        ring.pick(1);
        stillKilled("ON", ring);
        ring.rest(1);
        stillKilled("at rest", ring);
        ring.pick(1);
        ring.block(1, 4);
        stillKilled("on a channel", ring);
        ring.wake(4);
        stillKilled("woken", ring);
        ring.pick(1);
        ring.sleep(1, 1);
        stillKilled("asleep", ring);
        ring.tick();
        stillKilled("after its time", ring);
        ring.pick(0);
        ring.pick(1);
        ring.exit(1, 1);
        stillKilled("a ZOMBIE", ring);
        CHECK.due("await(0)", ring.await(0), 2);
        CHECK.due("fork(0)", ring.fork(0), 1);
        CHECK.due("gone, and another in its place: about(1, 3)", ring.about(1, 3), 0);
    }

    private static void ticksAreCountedFromZero() {
        ProcRing ring = new ProcRing(1);
        ring.first();
        CHECK.due("tick()", ring.tick(), 1);
        CHECK.due("tick()", ring.tick(), 2);
    }

    /** 2 (place 1) is on processor 1, its child 4 (place 3) on processor 2; 1 is on processor 0, its child 3 READY. */
    private static ProcRing withFamily() {
        ProcRing ring = Rings.withChildren(4, 2);
        ring.pick(1);
        ring.fork(1);
        ring.pick(2);
        ring.rest(2);
        ring.pick(2);
        return ring;
    }

    private static void afterwards(String when, Consumer<ProcRing> event, int onChannel, int forChild, int forTime) {
        ProcRing channel = withFamily();
        channel.block(1, 5);
        event.accept(channel);
        CHECK.due("on channel 5, " + when + ": about(1, 1)", channel.about(1, 1), onChannel);
        ProcRing child = withFamily();
        child.await(1);
        event.accept(child);
        CHECK.due("for a child, " + when + ": about(1, 1)", child.about(1, 1), forChild);
        ProcRing time = withFamily();
        time.sleep(1, 2);
        event.accept(time);
        CHECK.due("for two ticks, " + when + ": about(1, 1)", time.about(1, 1), forTime);
    }

    private static void whatEndsAWait() {
        afterwards("nothing", ring -> { }, BLOCKED, BLOCKED, BLOCKED);
        afterwards("its channel", ring -> ring.wake(5), READY, BLOCKED, BLOCKED);
        for (int channel : new int[] {Integer.MIN_VALUE, -1, 0, 1, 2, 3, 4, 6, Integer.MAX_VALUE}) {
            afterwards("channel " + channel, ring -> ring.wake(channel), BLOCKED, BLOCKED, BLOCKED);
        }
        afterwards("a child's end", ring -> ring.exit(2, 0), BLOCKED, READY, BLOCKED);
        afterwards("a stranger's end", ring -> {
            CHECK.due("pick(3)", ring.pick(3), 2);
            ring.exit(3, 0);
        }, BLOCKED, BLOCKED, BLOCKED);
        afterwards("a tick", ring -> ring.tick(), BLOCKED, BLOCKED, BLOCKED);
        afterwards("two ticks", ring -> {
            ring.tick();
            ring.tick();
        }, BLOCKED, BLOCKED, READY);
        afterwards("its kill", ring -> ring.kill(2), READY, READY, READY);
        afterwards("its child's kill", ring -> ring.kill(4), BLOCKED, BLOCKED, BLOCKED);
        afterwards("its parent's kill", ring -> ring.kill(1), BLOCKED, BLOCKED, BLOCKED);
    }

    private static ProcRing killedAndPicked(Consumer<ProcRing> wait) {
        ProcRing ring = withFamily();
        wait.accept(ring);
        ring.kill(2);
        ring.rest(0);
        CHECK.due("pick(0)", ring.pick(0), 0);
        CHECK.due("pick(1)", ring.pick(1), 1);
        return ring;
    }

    private static void goesOnWaiting(String when, ProcRing ring) {
        CHECK.due(when + ": about(1, 1)", ring.about(1, 1), BLOCKED);
    }

    private static void aWaitThatIsOverLeavesNothingBehind() {
        ProcRing ring = killedAndPicked(before -> before.block(1, 5));
        ring.await(1);
        CHECK.due("a channel before: wake(5)", ring.wake(5), 0);
        goesOnWaiting("a channel before, a child now", ring);

        ring = killedAndPicked(before -> before.block(1, 5));
        ring.block(1, 6);
        CHECK.due("a channel before: wake(5)", ring.wake(5), 0);
        goesOnWaiting("another channel before", ring);

        ring = killedAndPicked(before -> before.await(1));
        ring.block(1, 5);
        ring.exit(2, 0);
        goesOnWaiting("a child before, a channel now", ring);

        ring = killedAndPicked(before -> before.await(1));
        ring.sleep(1, 5);
        ring.exit(2, 0);
        goesOnWaiting("a child before, a time now", ring);

        ring = killedAndPicked(before -> before.sleep(1, 1));
        ring.await(1);
        ring.tick();
        goesOnWaiting("a time before, a child now", ring);

        ring = killedAndPicked(before -> before.sleep(1, 1));
        ring.sleep(1, 2);
        ring.tick();
        goesOnWaiting("a shorter time before", ring);

        ring = killedAndPicked(before -> before.sleep(1, 9));
        ring.sleep(1, 1);
        ring.tick();
        CHECK.due("a longer time before: about(1, 1)", ring.about(1, 1), READY);
    }

    private static void withTheFirstAllAreGone() {
        ProcRing ring = Rings.busy();
        CHECK.due("exit(1, 0)", ring.exit(1, 0), 0);
        Twins.alike(CHECK, "EMPTY, as at first", ring, new ProcRing(3));
        for (int processor = 0; processor < 3; processor++) {
            for (Call call : Call.values()) {
                int its = processor;
                Twins.refused(CHECK, "EMPTY: " + call + "(" + its + ")", Rings::emptied, empty -> call.on(empty, its));
                Twins.refused(CHECK, "new: " + call + "(" + its + ")", () -> new ProcRing(3), empty -> call.on(empty, its));
            }
        }
    }
}
