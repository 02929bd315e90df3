import java.util.ArrayList;
import java.util.List;
import java.util.Random;

/** Long runs of calls, drawn with fixed seeds, answered by the ring and by the model alike. */
public final class RunsAgainstModel {
    private static final int RUNS = 10000;
    // With the 91 calls of the look at the end, a run stays within the 512 that are promised.
    private static final int CALLS = 421;
    private static final int[] WILD = {Integer.MIN_VALUE, -2, -1, 15, 16, 1000, Integer.MAX_VALUE};
    // How often each call is drawn, by its number in answers(); the rows are kinds of runs.
    private static final int[][] WEIGHTS = {
        {1, 1, 1, 1, 1, 1, 1, 1, 1, 1, 1, 1, 1, 1},
        {4, 30, 24, 5, 8, 2, 5, 5, 4, 4, 6, 3, 8, 3},
        {2, 20, 30, 1, 3, 1, 8, 8, 2, 8, 3, 2, 4, 2},
        {4, 30, 20, 12, 14, 4, 2, 2, 2, 6, 1, 1, 6, 2},
    };

    private final Random random;
    private final int[] weights;
    private final int processors;
    private final ProcRing ring;
    private final Model model;
    private final List<String> calls = new ArrayList<>();

    private RunsAgainstModel(int run) {
        random = new Random(run);
        weights = WEIGHTS[run % WEIGHTS.length];
        processors = random.nextInt(7) - 1;
        ring = new ProcRing(processors);
        model = new Model(processors);
    }

    public static void main(String[] args) {
        Check check = new Check();
        for (int run = 0; run < RUNS; run++) {
            RunsAgainstModel one = new RunsAgainstModel(run);
            int alike = one.callsAlike();
            check.due("run " + run + ": calls answered alike", alike, CALLS);
            if (alike != CALLS) {
                System.out.println("new ProcRing(" + one.processors + "): " + one.calls);
                break;
            }
        }
        check.end();
    }

    private int callsAlike() {
        for (int i = 0; i < CALLS; i++) {
            int[] both = answers(drawCall());
            if (both[0] != both[1]) {
                calls.add("answered " + both[0] + ", due is " + both[1]);
                return i;
            }
        }
        return looksAlike() ? CALLS : CALLS - 1;
    }

    private boolean looksAlike() {
        for (int place = 0; place < 15; place++) {
            for (int what = 0; what < 6; what++) {
                if (ring.about(place, what) != model.about(place, what)) {
                    calls.add("about(" + place + ", " + what + ") answered " + ring.about(place, what)
                        + ", due is " + model.about(place, what));
                    return false;
                }
            }
        }
        return ring.status() == model.status();
    }

    private int drawCall() {
        int sum = 0;
        for (int weight : weights) {
            sum += weight;
        }
        int left = random.nextInt(sum);
        int call = 0;
        while (left >= weights[call]) {
            left -= weights[call];
            call++;
        }
        return call;
    }

    private int draw(int low, int high) {
        return random.nextInt(40) == 0 ? WILD[random.nextInt(WILD.length)] : low + random.nextInt(high - low + 1);
    }

    private int drawChannel() {
        return draw(-1, 3);
    }

    private int[] answers(int call) {
        int p = draw(0, Math.max(0, processors - 1));
        switch (call) {
            case 0: return row("first()", ring.first() ? 1 : 0, model.first() ? 1 : 0);
            case 1: return row("pick(" + p + ")", ring.pick(p), model.pick(p));
            case 2: return row("fork(" + p + ")", ring.fork(p), model.fork(p));
            case 3: { int s = draw(-3, 9); return row("exit(" + p + ", " + s + ")", ring.exit(p, s), model.exit(p, s)); }
            case 4: return row("await(" + p + ")", ring.await(p), model.await(p));
            case 5: return row("status()", ring.status(), model.status());
            case 6: { int c = drawChannel(); return row("block(" + p + ", " + c + ")", ring.block(p, c), model.block(p, c)); }
            case 7: { int n = draw(-1, 6); return row("sleep(" + p + ", " + n + ")", ring.sleep(p, n), model.sleep(p, n)); }
            case 8: { int c = drawChannel(); return row("wake(" + c + ")", ring.wake(c), model.wake(c)); }
            case 9: return row("rest(" + p + ")", ring.rest(p), model.rest(p));
            case 10: return row("tick()", ring.tick(), model.tick());
            case 11: { int k = draw(0, 30); return row("kill(" + k + ")", ring.kill(k) ? 1 : 0, model.kill(k) ? 1 : 0); }
            case 12: { int l = draw(0, 14); int w = draw(-1, 6);
                return row("about(" + l + ", " + w + ")", ring.about(l, w), model.about(l, w)); }
            default: { int s = draw(-1, 5); return row("count(" + s + ")", ring.count(s), model.count(s)); }
        }
    }

    private int[] row(String call, int got, int want) {
        calls.add(call + "=" + got);
        return new int[] {got, want};
    }
}
