public final class Promise14About {
    private static final Check CHECK = new Check();
    private static final int[] NO_PLACES = {-1, 15, 16, Integer.MIN_VALUE, Integer.MAX_VALUE};
    private static final int[] NO_WHATS = {-1, 6, 7, Integer.MIN_VALUE, Integer.MAX_VALUE};

    public static void main(String[] args) {
        inEveryState();
        noProcess();
        wrongPlacesAndWhats();
        ofAPlaceThatIsFreeAgain();
        onEveryProcessor();
        aQuestionChangesNothing();
        CHECK.end();
    }

    private static void inEveryState() {
        ProcRing ring = Rings.withChainOfFour();
        ring.fork(1);
        ring.kill(2);
        ring.block(2, 77);
        ring.exit(3, -8);
        CHECK.process("ON", ring, 0, 1, 2, 0, 0, 0, 0);
        CHECK.process("ON and killed", ring, 1, 2, 2, 1, 1, 0, 1);
        CHECK.process("BLOCKED", ring, 2, 3, 3, 2, 0, 0, ProcRing.NONE);
        CHECK.process("ZOMBIE", ring, 3, 4, 4, 3, 0, -8, ProcRing.NONE);
        CHECK.process("READY", ring, 4, 5, 1, 2, 0, 0, ProcRing.NONE);
    }

    private static void noProcess() {
        ProcRing ring = Rings.withFirstOn(2);
        for (int place = 1; place < 15; place++) {
            for (int what = 0; what < 6; what++) {
                int want = what == 1 ? 0 : ProcRing.NONE;
                CHECK.due("about(" + place + ", " + what + ")", ring.about(place, what), want);
            }
        }
    }

    private static void wrongPlacesAndWhats() {
        ProcRing ring = Rings.withChildren(1, 14);
        for (int place : NO_PLACES) {
            for (int what = -1; what < 7; what++) {
                CHECK.due("about(" + place + ", " + what + ")", ring.about(place, what), ProcRing.NONE);
            }
        }
        for (int what : NO_WHATS) {
            CHECK.due("about(0, " + what + ")", ring.about(0, what), ProcRing.NONE);
            CHECK.due("about(14, " + what + ")", ring.about(14, what), ProcRing.NONE);
            CHECK.due("free: about(0, " + what + ")", new ProcRing(1).about(0, what), ProcRing.NONE);
        }
    }

    private static void ofAPlaceThatIsFreeAgain() {
        ProcRing ring = Rings.busy();
        ring.await(1);
        CHECK.process("awaited", ring, 4, ProcRing.NONE, 0, ProcRing.NONE, ProcRing.NONE, ProcRing.NONE, ProcRing.NONE);
        ProcRing empty = Rings.emptied();
        for (int place = 0; place < 15; place++) {
            CHECK.process("emptied", empty, place,
                ProcRing.NONE, 0, ProcRing.NONE, ProcRing.NONE, ProcRing.NONE, ProcRing.NONE);
        }
    }

    private static void onEveryProcessor() {
        ProcRing ring = Rings.withChainOfFour();
        for (int processor = 0; processor < 4; processor++) {
            CHECK.due("about(" + processor + ", 5)", ring.about(processor, 5), processor);
        }
        ring.rest(2);
        CHECK.due("on none: about(2, 5)", ring.about(2, 5), ProcRing.NONE);
    }

    private static void aQuestionChangesNothing() {
        for (int what = -1; what <= 6; what++) {
            int its = what;
            Twins.refused(CHECK, "about(15, " + its + ")", Rings::busy, ring -> ring.about(15, its));
        }
        Twins.refused(CHECK, "about(2, 6)", Rings::busy, ring -> ring.about(2, 6));
        Twins.unchanged(CHECK, "about(2, 1)", Rings::busy, ring -> ring.about(2, 1), 3);
    }
}
