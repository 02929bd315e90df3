/** Gathers the answers that are not as due, and ends the test with exit code 1 if there was one. */
final class Check {
    private int wrong = 0;
    private int looked = 0;

    void due(String call, int got, int want) {
        looked++;
        if (got != want) {
            wrong++;
            System.out.println(call + " answered " + got + ", due is " + want);
        }
    }

    void due(String call, boolean got, boolean want) {
        due(call, got ? 1 : 0, want ? 1 : 0);
    }

    /** All that about() tells of a place with a process. */
    void process(String when, ProcRing ring, int place, int... want) {
        for (int what = 0; what < want.length; what++) {
            due(when + ": about(" + place + ", " + what + ")", ring.about(place, what), want[what]);
        }
    }

    void emptyRing(String when, ProcRing ring) {
        due(when + ": tick()", ring.tick(), ProcRing.NONE);
        due(when + ": count(0)", ring.count(0), 0);
        for (int place = 0; place < 15; place++) {
            due(when + ": about(" + place + ", 0)", ring.about(place, 0), ProcRing.NONE);
            due(when + ": about(" + place + ", 1)", ring.about(place, 1), 0);
        }
        for (int processor = -1; processor < 5; processor++) {
            due(when + ": pick(" + processor + ")", ring.pick(processor), ProcRing.NONE);
        }
    }

    void end() {
        System.out.println(looked + " answers looked at, " + wrong + " not as due");
        if (wrong != 0 || looked == 0) {
            System.exit(1);
        }
    }
}
