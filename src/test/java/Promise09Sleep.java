public final class Promise09Sleep {
    private static final Check CHECK = new Check();

    public static void main(String[] args) {
        asManyTicks();
        belowOneItGoesOn();
        aVeryLongSleep();
        onlyItsTimeOrAKillEndsIt();
        aSleepThatAKillEndedIsOver();
        noSuchProcess();
        CHECK.end();
    }

    private static void asManyTicks() {
        for (int n = 1; n <= 20; n++) {
            ProcRing ring = Rings.withChildren(2, 1);
            ring.tick();
            ring.tick();
            ring.pick(0);
            ring.pick(1);
            CHECK.due("sleep(1, " + n + ")", ring.sleep(1, n), 0);
            CHECK.process("asleep", ring, 0, 1, 3, 0, 0, 0, ProcRing.NONE);
            for (int gone = 1; gone <= n; gone++) {
                CHECK.due("tick()", ring.tick(), 2 + gone);
                CHECK.due(gone + " of " + n + ": about(0, 1)", ring.about(0, 1), gone < n ? 3 : 1);
            }
        }
    }

    private static void belowOneItGoesOn() {
        ProcRing ring = Rings.withChildren(2, 1);
        ring.pick(1);
        int[] below = {0, -1, Integer.MIN_VALUE};
        for (int n : below) {
            CHECK.due("sleep(1, " + n + ")", ring.sleep(1, n), 1);
            CHECK.process("it goes on", ring, 1, 2, 2, 1, 0, 0, 1);
            Twins.unchanged(CHECK, "sleep(0, " + n + ")", Rings::busy, busy -> busy.sleep(0, n), 5);
        }
    }

    private static void aVeryLongSleep() {
        ProcRing ring = Rings.withFirstOn(1);
        ring.tick();
        ring.pick(0);
        CHECK.due("sleep(0, greatest)", ring.sleep(0, Integer.MAX_VALUE), 0);
        for (int i = 2; i < 200; i++) {
            CHECK.due("tick()", ring.tick(), i);
            CHECK.due("about(0, 1)", ring.about(0, 1), 3);
        }
    }

    private static void onlyItsTimeOrAKillEndsIt() {
        ProcRing ring = Rings.withFirstOn(1);
        ring.sleep(0, 3);
        for (int channel = -1; channel < 8; channel++) {
            CHECK.due("wake(" + channel + ")", ring.wake(channel), 0);
        }
        CHECK.due("about(0, 1)", ring.about(0, 1), 3);
        ring.kill(1);
        CHECK.due("about(0, 1)", ring.about(0, 1), 1);
    }

    private static void aSleepThatAKillEndedIsOver() {
        ProcRing ring = Rings.withFirstOn(1);
        ring.sleep(0, 2);
        ring.kill(1);
        ring.pick(0);
        ring.block(0, 4);
        for (int i = 0; i < 4; i++) {
            ring.tick();
            CHECK.due("on a channel now: about(0, 1)", ring.about(0, 1), 3);
        }
        ring.wake(4);
        ring.pick(0);
        CHECK.due("sleep(0, 2)", ring.sleep(0, 2), 0);
        ring.tick();
        CHECK.due("a new sleep: about(0, 1)", ring.about(0, 1), 3);
        CHECK.due("its old channel: wake(4)", ring.wake(4), 0);
        ring.tick();
        CHECK.due("about(0, 1)", ring.about(0, 1), 1);
    }

    private static void noSuchProcess() {
        CHECK.due("empty: sleep(0, 1)", new ProcRing(4).sleep(0, 1), ProcRing.NONE);
        for (int n : new int[] {Integer.MIN_VALUE, -1, 0, 1, Integer.MAX_VALUE}) {
            Twins.refused(CHECK, "none on it: sleep(2, " + n + ")", Rings::busy, ring -> ring.sleep(2, n));
            for (int processor : Rings.NO_PROCESSORS_OF_FOUR) {
                Twins.refused(CHECK, "sleep(" + processor + ", " + n + ")", () -> Rings.withChildren(4, 1),
                    ring -> ring.sleep(processor, n));
            }
        }
    }
}
