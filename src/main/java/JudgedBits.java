/** Bits out of two rings that run with jitter, judged by health tests before they are let out. */
public final class JudgedBits {
    public static final int INVALID_ARGUMENT = -1000001;
    public static final int NOT_POSSIBLE = -1000002;
    public static final int LIMIT_REACHED = -1000003;
    public static final int NOT_FOUND = -1000004;

    private static final int MOST_SAMPLES = 300;

    private final Source now;
    /* Every change and every "what would be" runs here first, so that an error leaves "now" as it was. */
    private final Source trial;
    private final History history;
    private final Orders orders;

    public JudgedBits() {
        now = new Source();
        trial = new Source();
        history = new History();
        orders = new Orders();
    }

    // ---- the source

    public int ring(int ring, int period, int jitter) {
        trial.copyFrom(now);
        return settle(trial.changeRing(ring, period, jitter));
    }

    public int noise(int value) {
        trial.copyFrom(now);
        return settle(trial.changeNoise(value));
    }

    public int sample(int many) {
        trial.copyFrom(now);
        return settle(trial.makeSamples(many));
    }

    public int draw(int many) {
        trial.copyFrom(now);
        return settle(trial.drawBits(many));
    }

    public int restart() {
        trial.copyFrom(now);
        return settle(trial.startAnew());
    }

    public int set(int what, int value) {
        trial.copyFrom(now);
        return settle(trial.settings.change(what, value));
    }

    // ---- what there is

    public int ringOf(int ring, int what) {
        if (!isWithin(ring, 0, 1)) {
            return INVALID_ARGUMENT;
        }
        return now.ringAt(ring).tell(what);
    }

    public int source(int what) {
        return now.tell(what);
    }

    public int raw(int index) {
        if (!isWithin(index, 0, BitRow.MOST - 1)) {
            return INVALID_ARGUMENT;
        }
        return index < now.rawBits.size ? now.rawBits.fromLatest(index) : NOT_FOUND;
    }

    public int stored(int index) {
        if (index < 0) {
            return INVALID_ARGUMENT;
        }
        return index < now.store.size ? now.store.fromEarliest(index) : NOT_FOUND;
    }

    // ---- what would be

    public int would(int many, int what) {
        if (!isWithin(many, 0, MOST_SAMPLES) || !isWithin(what, 0, 2)) {
            return INVALID_ARGUMENT;
        }
        trial.copyFrom(now);
        if (many > 0) {
            trial.makeSamples(many);
        }
        switch (what) {
            case 0:
                return trial.store.size;
            case 1:
                return trial.health.mode;
            default:
                return trial.tally.lost - now.tally.lost;
        }
    }

    public int takes(int bits) {
        if (!isWithin(bits, 1, BitRow.MOST)) {
            return INVALID_ARGUMENT;
        }
        trial.copyFrom(now);
        for (int made = 0; made <= 2000; made++) {
            if (trial.store.size >= bits) {
                return made;
            }
            trial.makeSamples(1);
        }
        return NOT_FOUND;
    }

    public int bestPeriod(int what) {
        if (!isWithin(what, 0, 1)) {
            return INVALID_ARGUMENT;
        }
        int best = 0;
        int most = -1;
        for (int period = 20; period <= 400; period += 20) {
            int bits = bitsWithPeriod(period);
            if (bits > most) {
                best = period;
                most = bits;
            }
        }
        return what == 0 ? best : most;
    }

    public int share() {
        int kept = now.rawBits.size;
        if (kept <= 0) {
            return NOT_FOUND;
        }
        return bitsOfShare((float) now.rawBits.ones() / (float) kept);
    }

    public int count(int what) {
        if (isWithin(what, 20, 23)) {
            return now.settings.tell(what - 20);
        }
        if (what == 8) {
            return history.many;
        }
        if (what == 9) {
            return orders.text.length;
        }
        return now.tally.tell(what);
    }

    public int undo() {
        return history.bringBack(now);
    }

    // ---- texts

    public int type(int character) {
        return orders.text.append(character);
    }

    public int clearText() {
        return orders.text.clear();
    }

    public int fault(int what) {
        if (!isWithin(what, 0, 2)) {
            return INVALID_ARGUMENT;
        }
        trial.copyFrom(now);
        if (orders.areDoneOn(trial)) {
            return NOT_FOUND;
        }
        switch (what) {
            case 0:
                return orders.start;
            case 1:
                return orders.reason;
            default:
                return orders.cause;
        }
    }

    public int play() {
        trial.copyFrom(now);
        return settle(orders.areDoneOn(trial) ? orders.done : NOT_POSSIBLE);
    }

    // ---- what the calls share

    /* Every answer of a change that is no error is 0 or more. */
    private int settle(int answer) {
        if (answer >= 0) {
            history.keep(now);
            now.copyFrom(trial);
        }
        return answer;
    }

    private int bitsWithPeriod(int period) {
        trial.copyFrom(now);
        trial.changeRing(1, period, trial.ringOne.jitter);
        trial.makeSamples(200);
        return trial.store.size;
    }

    /* By hand, since LANGUAGE.md lists no call that tells the bits of a float; a share is 0 or from 1/64 to 1. */
    private static int bitsOfShare(float share) {
        if (share <= 0f) {
            return 0;
        }
        float scaled = share;
        int exponent = 127;
        for (int step = 0; step < 126 && scaled < 1f; step++) {
            scaled = scaled * 2f;
            exponent--;
        }
        return (exponent << 23) + (int) ((scaled - 1f) * 8388608f);
    }

    private static boolean isWithin(int value, int least, int most) {
        return value >= least && value <= most;
    }

    /* No period or jitter lets a divisor fall to 0; the test stands here so that it can be seen. */
    private static int remainder(int value, int divisor) {
        return divisor > 0 ? value % divisor : 0;
    }

    /** One ring: it is high in the first half of its period. */
    private static final class Ring {
        int period;
        int jitter = 7;
        int phase = 0;

        Ring(int period) {
            this.period = period;
        }

        void copyFrom(Ring other) {
            period = other.period;
            jitter = other.jitter;
            phase = other.phase;
        }

        boolean isHigh() {
            return phase < period / 2;
        }

        void advance(int step, int noiseNumber) {
            phase = remainder(phase + step + remainder(noiseNumber, jitter + 1), period);
        }

        void lockOn(Ring other) {
            phase = remainder(other.phase, period);
        }

        int tell(int what) {
            switch (what) {
                case 0:
                    return period;
                case 1:
                    return jitter;
                case 2:
                    return phase;
                case 3:
                    return isHigh() ? 1 : 0;
                default:
                    return INVALID_ARGUMENT;
            }
        }
    }

    /** The four settings, each within its range. */
    private static final class Settings {
        int step = 37;
        int lock = 2;
        int longestRun = 12;
        int leastOnes = 6;

        void copyFrom(Settings other) {
            step = other.step;
            lock = other.lock;
            longestRun = other.longestRun;
            leastOnes = other.leastOnes;
        }

        int tell(int what) {
            switch (what) {
                case 0:
                    return step;
                case 1:
                    return lock;
                case 2:
                    return longestRun;
                case 3:
                    return leastOnes;
                default:
                    return INVALID_ARGUMENT;
            }
        }

        int change(int what, int value) {
            if (!isAllowed(what, value)) {
                return INVALID_ARGUMENT;
            }
            int before = tell(what);
            switch (what) {
                case 0:
                    step = value;
                    break;
                case 1:
                    lock = value;
                    break;
                case 2:
                    longestRun = value;
                    break;
                default:
                    leastOnes = value;
                    break;
            }
            return before;
        }

        private static boolean isAllowed(int what, int value) {
            switch (what) {
                case 0:
                    return isWithin(value, 1, 500);
                case 1:
                    return isWithin(value, 0, 50);
                case 2:
                    return isWithin(value, 2, 40);
                case 3:
                    return isWithin(value, 0, 16);
                default:
                    return false;
            }
        }
    }

    /** At most 64 bits in a row: the latest one is the lowest, and above the earliest one all are 0. */
    private static final class BitRow {
        static final int MOST = 64;

        long bits = 0L;
        int size = 0;

        void copyFrom(BitRow other) {
            bits = other.bits;
            size = other.size;
        }

        void clear() {
            bits = 0L;
            size = 0;
        }

        boolean isFull() {
            return size >= MOST;
        }

        /* Of a full row the earliest bit is pushed out at the top. */
        void append(int bit) {
            bits = bits << 1 | bit;
            if (size < MOST) {
                size++;
            }
        }

        int fromLatest(int index) {
            return (int) (bits >>> index & 1L);
        }

        int fromEarliest(int index) {
            return fromLatest(size - 1 - index);
        }

        int takeEarliest(int many) {
            int left = size - many;
            int taken = (int) (bits >>> left);
            bits = bits & (1L << left) - 1L;
            size = left;
            return taken;
        }

        int ones() {
            return Long.bitCount(bits);
        }
    }

    /** The tests by runs and by shares, and what they have made of the source. */
    private static final class Health {
        static final int START_UP = 0;
        static final int RUNNING = 1;
        static final int IN_ALARM = 2;
        static final int START_UP_BITS = 64;
        static final int WINDOW_BITS = 32;
        static final int PASSED = 0;
        static final int RUN_TEST = 1;
        static final int SHARE_TEST = 2;

        int mode = START_UP;
        int failedTest = PASSED;
        int startUpBits = 0;
        int run = 0;
        int runBit = 0;
        int windowBits = 0;
        int windowOnes = 0;

        void copyFrom(Health other) {
            mode = other.mode;
            failedTest = other.failedTest;
            startUpBits = other.startUpBits;
            run = other.run;
            runBit = other.runBit;
            windowBits = other.windowBits;
            windowOnes = other.windowOnes;
        }

        void startAnew() {
            mode = START_UP;
            failedTest = PASSED;
            startUpBits = 0;
            run = 0;
            runBit = 0;
            windowBits = 0;
            windowOnes = 0;
        }

        /** Tests a raw bit, which may bring the alarm or end the start up. */
        void judge(int bit, Settings settings) {
            countInRun(bit);
            boolean shareFails = failsShare(bit, settings.leastOnes);
            if (run > settings.longestRun) {
                bringAlarm(RUN_TEST);
            } else if (shareFails) {
                bringAlarm(SHARE_TEST);
            } else if (mode == START_UP) {
                countInStartUp();
            }
        }

        private void countInRun(int bit) {
            run = run > 0 && bit == runBit ? run + 1 : 1;
            runBit = bit;
        }

        /* A full window is emptied whatever the run test says of the same bit. */
        private boolean failsShare(int bit, int leastOnes) {
            windowBits++;
            windowOnes += bit;
            if (windowBits < WINDOW_BITS) {
                return false;
            }
            int ones = windowOnes;
            windowBits = 0;
            windowOnes = 0;
            return ones < leastOnes || ones > WINDOW_BITS - leastOnes;
        }

        private void bringAlarm(int test) {
            mode = IN_ALARM;
            failedTest = test;
        }

        private void countInStartUp() {
            startUpBits++;
            if (startUpBits >= START_UP_BITS) {
                mode = RUNNING;
            }
        }
    }

    /** What has been counted since the object was made; starting anew leaves it alone. */
    private static final class Tally {
        int samples = 0;
        int ones = 0;
        int leftOut = 0;
        int stored = 0;
        int lost = 0;
        int drawn = 0;
        int alarms = 0;
        int longestRun = 0;

        void copyFrom(Tally other) {
            samples = other.samples;
            ones = other.ones;
            leftOut = other.leftOut;
            stored = other.stored;
            lost = other.lost;
            drawn = other.drawn;
            alarms = other.alarms;
            longestRun = other.longestRun;
        }

        int tell(int what) {
            switch (what) {
                case 0:
                    return samples;
                case 1:
                    return ones;
                case 2:
                    return leftOut;
                case 3:
                    return stored;
                case 4:
                    return lost;
                case 5:
                    return drawn;
                case 6:
                    return alarms;
                case 7:
                    return longestRun;
                default:
                    return INVALID_ARGUMENT;
            }
        }
    }

    /** Everything but the text and the history: what a change records and what undo brings back. */
    private static final class Source {
        static final int NONE_WAITS = -1;

        final Ring ringZero;
        final Ring ringOne;
        final Settings settings;
        final Health health;
        final BitRow rawBits;
        final BitRow store;
        final Tally tally;
        int noiseNumber = 1;
        int waiting = NONE_WAITS;

        Source() {
            ringZero = new Ring(100);
            ringOne = new Ring(137);
            settings = new Settings();
            health = new Health();
            rawBits = new BitRow();
            store = new BitRow();
            tally = new Tally();
        }

        void copyFrom(Source other) {
            ringZero.copyFrom(other.ringZero);
            ringOne.copyFrom(other.ringOne);
            settings.copyFrom(other.settings);
            health.copyFrom(other.health);
            rawBits.copyFrom(other.rawBits);
            store.copyFrom(other.store);
            tally.copyFrom(other.tally);
            noiseNumber = other.noiseNumber;
            waiting = other.waiting;
        }

        Ring ringAt(int which) {
            return which == 0 ? ringZero : ringOne;
        }

        int changeRing(int which, int period, int jitter) {
            if (!isWithin(which, 0, 1) || !isWithin(period, 10, 999) || !isWithin(jitter, 0, 99)) {
                return INVALID_ARGUMENT;
            }
            Ring changed = ringAt(which);
            int before = changed.period;
            changed.period = period;
            changed.jitter = jitter;
            changed.phase = 0;
            return before;
        }

        int changeNoise(int value) {
            if (!isWithin(value, 1, 65536)) {
                return INVALID_ARGUMENT;
            }
            int before = noiseNumber;
            noiseNumber = value;
            return before;
        }

        int makeSamples(int many) {
            if (!isWithin(many, 1, MOST_SAMPLES)) {
                return INVALID_ARGUMENT;
            }
            int before = tally.stored;
            for (int made = 0; made < many; made++) {
                takeRawBit(nextRawBit());
            }
            return tally.stored - before;
        }

        int drawBits(int many) {
            if (!isWithin(many, 1, 24)) {
                return INVALID_ARGUMENT;
            }
            if (store.size < many || health.mode == Health.IN_ALARM) {
                return NOT_POSSIBLE;
            }
            tally.drawn += many;
            return store.takeEarliest(many);
        }

        int startAnew() {
            int before = store.size;
            store.clear();
            health.startAnew();
            waiting = NONE_WAITS;
            return before;
        }

        private int nextRawBit() {
            ringZero.advance(settings.step, nextNoise());
            if (locksOn()) {
                ringOne.lockOn(ringZero);
            } else {
                ringOne.advance(settings.step, nextNoise());
            }
            return ringZero.isHigh() != ringOne.isHigh() ? 1 : 0;
        }

        private boolean locksOn() {
            return Math.abs(ringZero.period - ringOne.period) <= settings.lock;
        }

        private int nextNoise() {
            noiseNumber = noiseNumber * 75 % 65537;
            return noiseNumber;
        }

        private void takeRawBit(int bit) {
            rawBits.append(bit);
            tally.samples++;
            tally.ones += bit;
            if (health.mode == Health.IN_ALARM) {
                return;
            }
            boolean wasRunning = health.mode == Health.RUNNING;
            health.judge(bit, settings);
            tally.longestRun = Math.max(tally.longestRun, health.run);
            if (health.mode == Health.IN_ALARM) {
                tally.alarms++;
                waiting = NONE_WAITS;
            } else if (wasRunning) {
                pairUp(bit);
            }
        }

        private void pairUp(int bit) {
            if (waiting == NONE_WAITS) {
                waiting = bit;
                return;
            }
            int first = waiting;
            waiting = NONE_WAITS;
            if (first == bit) {
                tally.leftOut++;
            } else if (store.isFull()) {
                tally.lost++;
            } else {
                store.append(first);
                tally.stored++;
            }
        }

        int tell(int what) {
            switch (what) {
                case 0:
                    return health.mode;
                case 1:
                    return health.mode == Health.IN_ALARM ? health.failedTest : NOT_FOUND;
                case 2:
                    return health.mode == Health.START_UP ? Health.START_UP_BITS - health.startUpBits : NOT_FOUND;
                case 3:
                    return health.run;
                case 4:
                    return health.windowBits;
                case 5:
                    return health.windowOnes;
                case 6:
                    return store.size;
                case 7:
                    return waiting == NONE_WAITS ? NOT_FOUND : waiting;
                case 8:
                    return locksOn() ? 1 : 0;
                case 9:
                    return noiseNumber;
                default:
                    return INVALID_ARGUMENT;
            }
        }
    }

    /** The latest states, four at most; four named rows are moved along rather than new ones made. */
    private static final class History {
        static final int MOST = 4;

        final Source latest;
        final Source second;
        final Source third;
        final Source fourth;
        int many = 0;

        History() {
            latest = new Source();
            second = new Source();
            third = new Source();
            fourth = new Source();
        }

        void keep(Source state) {
            fourth.copyFrom(third);
            third.copyFrom(second);
            second.copyFrom(latest);
            latest.copyFrom(state);
            if (many < MOST) {
                many++;
            }
        }

        int bringBack(Source state) {
            if (many <= 0) {
                return NOT_POSSIBLE;
            }
            state.copyFrom(latest);
            latest.copyFrom(second);
            second.copyFrom(third);
            third.copyFrom(fourth);
            many--;
            return many;
        }
    }

    /** The text that is typed. */
    private static final class Text {
        static final int MOST = 60;
        /* No character that can be typed. */
        static final char END = 0;

        final char[] characters = new char[MOST];
        int length = 0;

        int append(int character) {
            if (!isWithin(character, 32, 126)) {
                return INVALID_ARGUMENT;
            }
            if (!isWithin(length, 0, characters.length - 1)) {
                return LIMIT_REACHED;
            }
            characters[length] = (char) character;
            length++;
            return length;
        }

        int clear() {
            int before = length;
            length = 0;
            return before;
        }

        char at(int position) {
            return isWithin(position, 0, Math.min(length, characters.length) - 1) ? characters[position] : END;
        }
    }

    /** Reads the orders of the text and does them on a source, up to the first one that is not possible. */
    private static final class Orders {
        static final int BAD_FORM = 1;
        static final int BAD_CALL = 2;

        final Text text;
        int start = 0;
        int place = 0;
        int done = 0;
        int reason = 0;
        int cause = 0;
        int kind = Text.END;
        int number = 0;
        int first = 0;
        int second = 0;

        Orders() {
            text = new Text();
        }

        boolean areDoneOn(Source source) {
            place = 0;
            for (done = 0; done < Text.MOST && place < text.length; done++) {
                start = place;
                if (!isRead()) {
                    reason = BAD_FORM;
                    cause = place - start;
                    return false;
                }
                int answer = doOn(source);
                if (answer < 0) {
                    reason = BAD_CALL;
                    cause = answer;
                    return false;
                }
            }
            return true;
        }

        /* Where an order is not of its form, the place stays at the character at which it breaks off. */
        private boolean isRead() {
            kind = text.at(place);
            switch (kind) {
                case 'n':
                    place++;
                    return isSkipped(';');
                case 's':
                case 'd':
                case 'x':
                    place++;
                    return isNumberRead() && isSkipped(';');
                case 'r':
                    place++;
                    return areRingNumbersRead() && isSkipped(';');
                default:
                    return false;
            }
        }

        private boolean areRingNumbersRead() {
            if (!isNumberRead() || !isSkipped(',')) {
                return false;
            }
            first = number;
            if (!isNumberRead() || !isSkipped(',')) {
                return false;
            }
            second = number;
            return isNumberRead();
        }

        private boolean isNumberRead() {
            number = 0;
            int begin = place;
            while (place - begin < 3 && isWithin(text.at(place), '0', '9')) {
                number = number * 10 + text.at(place) - '0';
                place++;
            }
            return place > begin;
        }

        private boolean isSkipped(char wanted) {
            if (text.at(place) != wanted) {
                return false;
            }
            place++;
            return true;
        }

        private int doOn(Source source) {
            switch (kind) {
                case 'r':
                    return source.changeRing(first, second, number);
                case 's':
                    return source.makeSamples(number);
                case 'd':
                    return source.drawBits(number);
                case 'n':
                    return source.startAnew();
                default:
                    return source.changeNoise(number);
            }
        }
    }
}
