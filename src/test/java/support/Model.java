import java.util.ArrayList;
import java.util.HashMap;
import java.util.List;
import java.util.Map;
import java.util.TreeMap;

/** The document once more, held in another way: a map of places, and each process knows its own affairs. */
final class Model {
    private static final class Process {
        int number;
        Process parent;
        Integer processor;
        Integer channel;
        boolean awaits;
        Long until;
        Integer ended;
        boolean killed;

        boolean isBlocked() {
            return channel != null || awaits || until != null;
        }

        int state() {
            return ended != null ? 4 : isBlocked() ? 3 : processor != null ? 2 : 1;
        }

        void unblock() {
            channel = null;
            awaits = false;
            until = null;
        }
    }

    private final int processors;
    private final TreeMap<Integer, Process> table = new TreeMap<>();
    private int made;
    private int ticks;
    private int last;
    private int status;

    Model(int asked) {
        processors = asked < 1 ? 1 : asked > 4 ? 4 : asked;
    }

    private Map.Entry<Integer, Process> on(int processor) {
        for (Map.Entry<Integer, Process> entry : table.entrySet()) {
            Integer its = entry.getValue().processor;
            if (its != null && its == processor) {
                return entry;
            }
        }
        return null;
    }

    private Process make(int place, Process parent) {
        Process process = new Process();
        process.number = ++made;
        process.parent = parent;
        table.put(place, process);
        return process;
    }

    private List<Process> childrenOf(Process parent) {
        List<Process> children = new ArrayList<>();
        for (Process process : table.values()) {
            if (process.parent == parent) {
                children.add(process);
            }
        }
        return children;
    }

    private void endWaitsForChildren() {
        for (Process process : table.values()) {
            if (process.awaits && childrenOf(process).stream().anyMatch(child -> child.ended != null)) {
                process.unblock();
            }
        }
    }

    boolean first() {
        if (!table.isEmpty()) {
            return false;
        }
        made = 0;
        ticks = 0;
        last = 14;
        make(0, null);
        return true;
    }

    int pick(int processor) {
        if (processor < 0 || processor >= processors) {
            return -1;
        }
        if (on(processor) != null) {
            return on(processor).getKey();
        }
        List<Integer> order = new ArrayList<>(table.tailMap(last, false).keySet());
        order.addAll(table.headMap(last, true).keySet());
        for (int place : order) {
            if (table.get(place).state() == 1) {
                table.get(place).processor = processor;
                last = place;
                return place;
            }
        }
        return -1;
    }

    int fork(int processor) {
        Map.Entry<Integer, Process> entry = on(processor);
        if (entry == null || table.size() == 15) {
            return -1;
        }
        int place = 0;
        while (table.containsKey(place)) {
            place++;
        }
        make(place, entry.getValue());
        return place;
    }

    int exit(int processor, int with) {
        Map.Entry<Integer, Process> entry = on(processor);
        if (entry == null) {
            return -1;
        }
        Process ending = entry.getValue();
        int place = entry.getKey();
        if (ending.number == 1) {
            status = with;
            table.clear();
            return place;
        }
        ending.processor = null;
        ending.ended = with;
        for (Process child : childrenOf(ending)) {
            child.parent = table.get(0);
        }
        endWaitsForChildren();
        return place;
    }

    int await(int processor) {
        Map.Entry<Integer, Process> entry = on(processor);
        if (entry == null || childrenOf(entry.getValue()).isEmpty()) {
            return -1;
        }
        for (Process child : childrenOf(entry.getValue())) {
            if (child.ended != null) {
                status = child.ended;
                table.values().remove(child);
                return child.number;
            }
        }
        entry.getValue().processor = null;
        entry.getValue().awaits = true;
        return 0;
    }

    int status() {
        return status;
    }

    int block(int processor, int channel) {
        Map.Entry<Integer, Process> entry = on(processor);
        if (entry == null) {
            return -1;
        }
        entry.getValue().processor = null;
        entry.getValue().channel = channel;
        return entry.getKey();
    }

    int sleep(int processor, int n) {
        Map.Entry<Integer, Process> entry = on(processor);
        if (entry == null) {
            return -1;
        }
        if (n >= 1) {
            entry.getValue().processor = null;
            entry.getValue().until = (long) ticks + n;
        }
        return entry.getKey();
    }

    int wake(int channel) {
        int woken = 0;
        for (Process process : table.values()) {
            if (process.channel != null && process.channel == channel) {
                process.unblock();
                woken++;
            }
        }
        return woken;
    }

    int rest(int processor) {
        Map.Entry<Integer, Process> entry = on(processor);
        if (entry == null) {
            return -1;
        }
        entry.getValue().processor = null;
        return entry.getKey();
    }

    int tick() {
        if (table.isEmpty()) {
            return -1;
        }
        ticks++;
        for (Process process : table.values()) {
            process.processor = null;
            if (process.until != null && process.until <= ticks) {
                process.unblock();
            }
        }
        return ticks;
    }

    boolean kill(int number) {
        Map<Integer, Process> byNumber = new HashMap<>();
        for (Process process : table.values()) {
            byNumber.put(process.number, process);
        }
        Process process = byNumber.get(number);
        if (process == null || process.ended != null) {
            return false;
        }
        process.killed = true;
        process.unblock();
        return true;
    }

    int about(int place, int what) {
        Process process = table.get(place);
        if (process == null) {
            return what == 1 && place >= 0 && place <= 14 ? 0 : -1;
        }
        switch (what) {
            case 0: return process.number;
            case 1: return process.state();
            case 2: return process.parent == null ? 0 : process.parent.number;
            case 3: return process.killed ? 1 : 0;
            case 4: return process.ended == null ? 0 : process.ended;
            case 5: return process.processor == null ? -1 : process.processor;
            default: return -1;
        }
    }

    int count(int state) {
        if (state == 0) {
            return table.size();
        }
        if (state < 1 || state > 4) {
            return -1;
        }
        return (int) table.values().stream().filter(process -> process.state() == state).count();
    }
}
