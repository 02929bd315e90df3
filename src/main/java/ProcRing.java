/** The processes of a small kernel, as its table and its scheduler see them. */
public final class ProcRing {
    public static final int NONE = -1;

    private static final int PLACES = 15;
    private static final int LEAST_PROCESSORS = 1;
    private static final int MOST_PROCESSORS = 4;

    // The first process keeps this place as long as the ring is not empty.
    private static final int FIRST_PLACE = 0;
    private static final int FIRST_NUMBER = 1;
    private static final int NO_PARENT = 0;

    private static final int FREE = 0;
    private static final int READY = 1;
    private static final int ON = 2;
    private static final int BLOCKED = 3;
    private static final int ZOMBIE = 4;

    // Every int is a channel, so what a process waits for is held beside the channel.
    private static final int FOR_NOTHING = 0;
    private static final int FOR_CHANNEL = 1;
    private static final int FOR_CHILD = 2;
    private static final int FOR_TIME = 3;

    private static final int ABOUT_NUMBER = 0;
    private static final int ABOUT_STATE = 1;
    private static final int ABOUT_PARENT = 2;
    private static final int ABOUT_KILLED = 3;
    private static final int ABOUT_STATUS = 4;
    private static final int ABOUT_PROCESSOR = 5;

    private static final int ALL_STATES = 0;

    // One element a place.
    private final int[] numbers;
    private final int[] states;
    private final int[] parents;
    private final boolean[] killed;
    private final int[] endStatuses;
    private final int[] waitsFor;
    private final int[] channels;
    private final int[] ticksLeft;

    // One element a processor: the place of the process on it, or NONE.
    private final int[] placesOn;

    private int takenLast;
    private int numberLast;
    private int ticks;
    private int statusLatest;

    public ProcRing(int processors) {
        int n = Math.max(LEAST_PROCESSORS, Math.min(MOST_PROCESSORS, processors));
        numbers = new int[PLACES];
        states = new int[PLACES];
        parents = new int[PLACES];
        killed = new boolean[PLACES];
        endStatuses = new int[PLACES];
        waitsFor = new int[PLACES];
        channels = new int[PLACES];
        ticksLeft = new int[PLACES];
        placesOn = new int[n];
        for (int processor = 0; processor < n; processor++) {
            placesOn[processor] = NONE;
        }
        takenLast = PLACES - 1;
        numberLast = 0;
        ticks = 0;
        statusLatest = 0;
    }

    public boolean first() {
        if (!isEmptyRing()) {
            return false;
        }
        ticks = 0;
        takenLast = PLACES - 1;
        numberLast = FIRST_NUMBER;
        settle(FIRST_PLACE, FIRST_NUMBER, NO_PARENT);
        return true;
    }

    public int pick(int processor) {
        if (!isProcessor(processor)) {
            return NONE;
        }
        if (placesOn[processor] != NONE) {
            return placesOn[processor];
        }
        int place = nextReady();
        if (place == NONE) {
            return NONE;
        }
        states[place] = ON;
        placesOn[processor] = place;
        takenLast = place;
        return place;
    }

    public int fork(int processor) {
        int parentPlace = placeOn(processor);
        if (parentPlace == NONE) {
            return NONE;
        }
        int place = firstFree();
        if (place == NONE) {
            return NONE;
        }
        numberLast++;
        settle(place, numberLast, numbers[parentPlace]);
        return place;
    }

    public int exit(int processor, int status) {
        int place = placeOn(processor);
        if (place == NONE) {
            return NONE;
        }
        if (place == FIRST_PLACE) {
            statusLatest = status;
            emptyRing();
            return place;
        }
        takeOff(processor, place, ZOMBIE);
        endStatuses[place] = status;
        handOnChildren(numbers[place]);
        tellOfZombie(parents[place]);
        return place;
    }

    public int await(int processor) {
        int place = placeOn(processor);
        if (place == NONE || !hasChild(numbers[place])) {
            return NONE;
        }
        int childPlace = firstZombieChild(numbers[place]);
        if (childPlace == NONE) {
            takeOff(processor, place, BLOCKED);
            waitsFor[place] = FOR_CHILD;
            return 0;
        }
        int childNumber = numbers[childPlace];
        statusLatest = endStatuses[childPlace];
        clearPlace(childPlace);
        return childNumber;
    }

    public int status() {
        return statusLatest;
    }

    public int block(int processor, int channel) {
        int place = placeOn(processor);
        if (place == NONE) {
            return NONE;
        }
        takeOff(processor, place, BLOCKED);
        waitsFor[place] = FOR_CHANNEL;
        channels[place] = channel;
        return place;
    }

    public int sleep(int processor, int n) {
        int place = placeOn(processor);
        if (place == NONE || n < 1) {
            return place;
        }
        takeOff(processor, place, BLOCKED);
        waitsFor[place] = FOR_TIME;
        // What is left is counted down: the tick of the end could lie above the greatest int.
        ticksLeft[place] = n;
        return place;
    }

    public int wake(int channel) {
        int woken = 0;
        for (int place = 0; place < PLACES; place++) {
            if (isBlockedFor(place, FOR_CHANNEL) && channels[place] == channel) {
                makeReady(place);
                woken++;
            }
        }
        return woken;
    }

    public int rest(int processor) {
        int place = placeOn(processor);
        if (place == NONE) {
            return NONE;
        }
        takeOff(processor, place, READY);
        return place;
    }

    public int tick() {
        if (isEmptyRing()) {
            return NONE;
        }
        ticks++;
        for (int processor = 0; processor < placesOn.length; processor++) {
            rest(processor);
        }
        for (int place = 0; place < PLACES; place++) {
            if (isBlockedFor(place, FOR_TIME)) {
                countDown(place);
            }
        }
        return ticks;
    }

    public boolean kill(int number) {
        int place = placeOf(number);
        if (place == NONE || states[place] == ZOMBIE) {
            return false;
        }
        killed[place] = true;
        if (states[place] == BLOCKED) {
            makeReady(place);
        }
        return true;
    }

    public int about(int place, int what) {
        if (place < 0 || place >= PLACES) {
            return NONE;
        }
        if (states[place] == FREE) {
            return what == ABOUT_STATE ? FREE : NONE;
        }
        switch (what) {
            case ABOUT_NUMBER:
                return numbers[place];
            case ABOUT_STATE:
                return states[place];
            case ABOUT_PARENT:
                return parents[place];
            case ABOUT_KILLED:
                return killed[place] ? 1 : 0;
            case ABOUT_STATUS:
                return endStatuses[place];
            case ABOUT_PROCESSOR:
                return processorOf(place);
            default:
                return NONE;
        }
    }

    public int count(int state) {
        if (state < ALL_STATES || state > ZOMBIE) {
            return NONE;
        }
        int found = 0;
        for (int place = 0; place < PLACES; place++) {
            boolean counts = state == ALL_STATES ? states[place] != FREE : states[place] == state;
            if (counts) {
                found++;
            }
        }
        return found;
    }

    private boolean isEmptyRing() {
        return states[FIRST_PLACE] == FREE;
    }

    private boolean isProcessor(int processor) {
        return processor >= 0 && processor < placesOn.length;
    }

    private boolean isBlockedFor(int place, int reason) {
        return states[place] == BLOCKED && waitsFor[place] == reason;
    }

    private boolean isChild(int place, int parentNumber) {
        return states[place] != FREE && parents[place] == parentNumber;
    }

    private int placeOn(int processor) {
        return isProcessor(processor) ? placesOn[processor] : NONE;
    }

    private int processorOf(int place) {
        for (int processor = 0; processor < placesOn.length; processor++) {
            if (placesOn[processor] == place) {
                return processor;
            }
        }
        return NONE;
    }

    private int placeOf(int number) {
        for (int place = 0; place < PLACES; place++) {
            if (states[place] != FREE && numbers[place] == number) {
                return place;
            }
        }
        return NONE;
    }

    private int nextReady() {
        for (int step = 1; step <= PLACES; step++) {
            int place = (takenLast + step) % PLACES;
            if (states[place] == READY) {
                return place;
            }
        }
        return NONE;
    }

    private int firstFree() {
        for (int place = 0; place < PLACES; place++) {
            if (states[place] == FREE) {
                return place;
            }
        }
        return NONE;
    }

    private boolean hasChild(int parentNumber) {
        for (int place = 0; place < PLACES; place++) {
            if (isChild(place, parentNumber)) {
                return true;
            }
        }
        return false;
    }

    private int firstZombieChild(int parentNumber) {
        for (int place = 0; place < PLACES; place++) {
            if (isChild(place, parentNumber) && states[place] == ZOMBIE) {
                return place;
            }
        }
        return NONE;
    }

    // A free place is clear already: whatever frees one clears it.
    private void settle(int place, int number, int parentNumber) {
        numbers[place] = number;
        parents[place] = parentNumber;
        states[place] = READY;
    }

    private void clearPlace(int place) {
        numbers[place] = 0;
        states[place] = FREE;
        parents[place] = NO_PARENT;
        killed[place] = false;
        endStatuses[place] = 0;
        waitsFor[place] = FOR_NOTHING;
        channels[place] = 0;
        ticksLeft[place] = 0;
    }

    private void emptyRing() {
        for (int place = 0; place < PLACES; place++) {
            clearPlace(place);
        }
        for (int processor = 0; processor < placesOn.length; processor++) {
            placesOn[processor] = NONE;
        }
    }

    private void takeOff(int processor, int place, int state) {
        placesOn[processor] = NONE;
        states[place] = state;
    }

    private void makeReady(int place) {
        states[place] = READY;
        waitsFor[place] = FOR_NOTHING;
    }

    private void countDown(int place) {
        ticksLeft[place]--;
        if (ticksLeft[place] <= 0) {
            makeReady(place);
        }
    }

    private void handOnChildren(int parentNumber) {
        for (int place = 0; place < PLACES; place++) {
            if (isChild(place, parentNumber)) {
                parents[place] = FIRST_NUMBER;
                if (states[place] == ZOMBIE) {
                    tellOfZombie(FIRST_NUMBER);
                }
            }
        }
    }

    private void tellOfZombie(int parentNumber) {
        int place = placeOf(parentNumber);
        if (place != NONE && isBlockedFor(place, FOR_CHILD)) {
            makeReady(place);
        }
    }
}
