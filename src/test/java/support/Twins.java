import java.util.function.Supplier;
import java.util.function.ToIntFunction;

/** Two rings made alike; a call that is to change nothing is made on one of them alone. */
final class Twins {
    private static final int ROUNDS = 3;

    private Twins() { }

    static void unchanged(Check check, String call, Supplier<ProcRing> maker, ToIntFunction<ProcRing> made, int want) {
        ProcRing ring = maker.get();
        check.due(call, made.applyAsInt(ring), want);
        alike(check, call + ", then", ring, maker.get());
    }

    static void refused(Check check, String call, Supplier<ProcRing> maker, ToIntFunction<ProcRing> made) {
        unchanged(check, call, maker, made, ProcRing.NONE);
    }

    /** Some 400 calls on each of the two. */
    static void alike(Check check, String when, ProcRing ring, ProcRing twin) {
        look(check, when, ring, twin);
        // No look shows whose turn it is, which number comes next or how long a sleep lasts: only what comes of it.
        for (int round = 0; round < ROUNDS; round++) {
            goOn(check, when + " round " + round, round, ring, twin);
            look(check, when + " round " + round, ring, twin);
        }
    }

    private static void goOn(Check check, String when, int round, ProcRing ring, ProcRing twin) {
        // On a ring that is not empty, a first() would do to the twin too whatever it wrongly did to the ring.
        if (twin.count(0) == 0) {
            check.due(when + ": first()", ring.first(), twin.first());
        }
        for (int processor = 0; processor < 4; processor++) {
            check.due(when + ": pick(" + processor + ")", ring.pick(processor), twin.pick(processor));
        }
        for (int processor = 0; processor < 4; processor++) {
            check.due(when + ": fork(" + processor + ")", ring.fork(processor), twin.fork(processor));
        }
        check.due(when + ": exit(0)", ring.exit(0, round), twin.exit(0, round));
        check.due(when + ": tick()", ring.tick(), twin.tick());
    }

    private static void look(Check check, String when, ProcRing ring, ProcRing twin) {
        check.due(when + ": status()", ring.status(), twin.status());
        for (int place = 0; place < 15; place++) {
            for (int what = 0; what < 6; what++) {
                check.due(when + ": about(" + place + ", " + what + ")", ring.about(place, what), twin.about(place, what));
            }
        }
    }
}
