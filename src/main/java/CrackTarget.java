/**
 * A target frame with an ear at each corner, which hears the cracks of shots and works out where
 * they passed. What each call answers is promised in ../shared/DOC.md.
 */
public final class CrackTarget {
    public static final int NO_SUCH = -1, BAD_VALUE = -2, BAD_TEXT = -3, TOO_MANY = -4, NOT_POSSIBLE = -5, NONE = -6;
    public static final int HEAT = 0, WINDOW = 1, SLACK = 2;

    private static final int SIDE = 40;
    private static final int EARS = 4;
    private static final int SLOTS = 2;
    private static final int MOST_PULSES = 32;
    private static final int MOST_SHOTS = MOST_PULSES / EARS;
    private static final int LATEST_PULSE = 99999;
    private static final int LATEST_FIRE = 90000;
    private static final int NO_PULSE = -1;
    private static final int[] LOWEST = {-30, 100, 0};
    private static final int[] HIGHEST = {50, 4000, 300};

    private final Heard now = new Heard();
    private final History history = new History();
    private final Heard[] slots = new Heard[SLOTS];
    private final boolean[] saved = new boolean[SLOTS];
    private final Pad pad = new Pad();
    private final Frame frame = new Frame();
    private final Finder finder = new Finder();
    private final Shots found = new Shots();
    private final Shots tried = new Shots();
    private boolean stale = true;

    public CrackTarget() {
        for (int slot = 0; slot < SLOTS; slot++) {
            slots[slot] = new Heard();
        }
    }

    // ---- changes

    public int set(int setting, int value) {
        if (setting < HEAT || setting > SLACK) {
            return BAD_VALUE;
        }
        if (value < LOWEST[setting] || value > HIGHEST[setting]) {
            return BAD_VALUE;
        }
        int previous = now.settings[setting];
        beginChange();
        now.settings[setting] = value;
        return previous + 100;
    }

    public int hear(int ear, int time) {
        if (!isEar(ear)) {
            return NO_SUCH;
        }
        if (time < 0 || time > LATEST_PULSE) {
            return BAD_VALUE;
        }
        int mark = markOf(ear, time);
        int error = now.refusalOf(mark);
        if (error != 0) {
            return error;
        }
        beginChange();
        return now.add(mark);
    }

    public int fire(int x, int y, int time) {
        if (!isPoint(x, y)) {
            return NO_SUCH;
        }
        if (time < 0 || time > LATEST_FIRE) {
            return BAD_VALUE;
        }
        frame.tune(now.settings[HEAT]);
        for (int ear = 0; ear < EARS; ear++) {
            if (now.has(markOf(ear, time + frame.crackTime(x, y, ear)))) {
                return NOT_POSSIBLE;
            }
        }
        if (now.size + EARS > MOST_PULSES) {
            return TOO_MANY;
        }
        beginChange();
        for (int ear = 0; ear < EARS; ear++) {
            now.add(markOf(ear, time + frame.crackTime(x, y, ear)));
        }
        return now.size;
    }

    public int hearAll() {
        if (pad.read() != NONE) {
            return BAD_TEXT;
        }
        beginChange();
        int heard = 0;
        while (heard < pad.pulses && now.refusalOf(pad.marks[heard]) == 0) {
            now.add(pad.marks[heard]);
            heard++;
        }
        pad.length = 0;
        return heard;
    }

    public int forget(int pulse) {
        if (!now.isPulse(pulse)) {
            return NO_SUCH;
        }
        int time = now.timeOf(pulse);
        beginChange();
        now.remove(pulse);
        return time;
    }

    public int clear() {
        int before = now.size;
        beginChange();
        now.size = 0;
        return before;
    }

    // ---- what there is; nothing changes

    public int takes(int x, int y, int ear) {
        if (!isPoint(x, y) || !isEar(ear)) {
            return NO_SUCH;
        }
        frame.tune(now.settings[HEAT]);
        return frame.crackTime(x, y, ear);
    }

    public int pulse(int pulse, int what) {
        if (!now.isPulse(pulse)) {
            return NO_SUCH;
        }
        switch (what) {
            case 0: return now.earOf(pulse);
            case 1: return now.timeOf(pulse);
            case 2: return current().owners[pulse];
            default: return BAD_VALUE;
        }
    }

    public int shot(int shot, int what) {
        Shots shots = current();
        if (!shots.isShot(shot)) {
            return NO_SUCH;
        }
        return shots.list[shot].tell(what);
    }

    public int count(int what) {
        switch (what) {
            case 0: return now.size;
            case 1: return current().size;
            case 2: return now.size - EARS * current().size;
            case 3: return current().sumOfRings();
            case 4: return current().withGreatestRing();
            case 5: return current().sumOfSpreads();
            case 6: return current().widest(frame);
            case 7: return Frame.speedAt(now.settings[HEAT]);
            case 8: return now.settings[HEAT] + 100;
            case 9: return now.settings[WINDOW];
            case 10: return now.settings[SLACK];
            case 11: return pad.length;
            case 12: return history.size;
            default: return BAD_VALUE;
        }
    }

    public int fits(int shot, int x, int y) {
        Shots shots = current();
        if (!shots.isShot(shot) || !isPoint(x, y)) {
            return NO_SUCH;
        }
        return finder.spreadOf(frame, now, shots.list[shot], x, y);
    }

    public int mean(int which) {
        if (which != 0 && which != 1) {
            return BAD_VALUE;
        }
        Shots shots = current();
        if (shots.size == 0) {
            return NONE;
        }
        return (which == 0 ? shots.sumOfX() : shots.sumOfY()) * 100 / shots.size;
    }

    // ---- what if; nothing changes

    public int ifHeat(int heat, int what) {
        if (heat < LOWEST[HEAT] || heat > HIGHEST[HEAT]) {
            return BAD_VALUE;
        }
        if (what < 0 || what > 2) {
            return BAD_VALUE;
        }
        tryOut(heat, NO_PULSE);
        switch (what) {
            case 0: return tried.size;
            case 1: return tried.sumOfRings();
            default: return tried.sumOfSpreads();
        }
    }

    public int bestHeat() {
        int best = LOWEST[HEAT];
        int mostShots = -1;
        int leastSpreads = 0;
        for (int heat = LOWEST[HEAT]; heat <= HIGHEST[HEAT]; heat += 10) {
            tryOut(heat, NO_PULSE);
            int spreads = tried.sumOfSpreads();
            if (tried.size > mostShots || (tried.size == mostShots && spreads < leastSpreads)) {
                best = heat;
                mostShots = tried.size;
                leastSpreads = spreads;
            }
        }
        return best + 100;
    }

    public int ifForgot(int pulse) {
        if (!now.isPulse(pulse)) {
            return NO_SUCH;
        }
        tryOut(now.settings[HEAT], pulse);
        return tried.size;
    }

    // ---- texts

    public int put(long characters) {
        int given = 0;
        long rest = characters;
        while (given < 8 && (rest & 255) != 0) {
            long code = rest & 255;
            if (code < 33 || code > 126) {
                return BAD_VALUE;
            }
            rest >>>= 8;
            given++;
        }
        if (given == 0 || rest != 0) {
            return BAD_VALUE;
        }
        if (pad.length + given > Pad.MOST) {
            return TOO_MANY;
        }
        for (int next = given - 1; next >= 0; next--) {
            pad.append((char) ((characters >>> (8 * next)) & 255));
        }
        return pad.length;
    }

    public int wipe() {
        int before = pad.length;
        pad.length = 0;
        return before;
    }

    public int fault() {
        return pad.read();
    }

    // ---- undo, saving

    public int undo() {
        if (history.size == 0) {
            return NOT_POSSIBLE;
        }
        history.takeBack(now);
        stale = true;
        return history.size;
    }

    public int save(int slot) {
        if (slot < 0 || slot >= SLOTS) {
            return BAD_VALUE;
        }
        slots[slot].become(now);
        saved[slot] = true;
        return now.size;
    }

    public int restore(int slot) {
        if (slot < 0 || slot >= SLOTS) {
            return BAD_VALUE;
        }
        if (!saved[slot]) {
            return NOT_POSSIBLE;
        }
        beginChange();
        now.become(slots[slot]);
        return now.size;
    }

    /** Every change comes through here, so that none misses the history or leaves old shots standing. */
    private void beginChange() {
        history.record(now);
        stale = true;
    }

    /** The shots are sought only when somebody asks, since many changes may come before that. */
    private Shots current() {
        frame.tune(now.settings[HEAT]);
        if (stale) {
            finder.find(frame, now, NO_PULSE, found);
            stale = false;
        }
        return found;
    }

    private void tryOut(int heat, int without) {
        frame.tune(heat);
        finder.find(frame, now, without, tried);
    }

    private static boolean isEar(int ear) {
        return ear >= 0 && ear < EARS;
    }

    private static boolean isPoint(int x, int y) {
        return x >= 0 && x <= SIDE && y >= 0 && y <= SIDE;
    }

    /** A pulse is held as one number, whose order is that of the pulses: by time, then by ear. */
    private static int markOf(int ear, int time) {
        return time * EARS + ear;
    }

    /** All that undo and the slots bring back: the settings and the pulses. */
    private static final class Heard {
        final int[] settings = {15, 1900, 6};
        final int[] marks = new int[MOST_PULSES];
        int size;

        boolean isPulse(int pulse) {
            return pulse >= 0 && pulse < size;
        }

        int earOf(int pulse) {
            return marks[pulse] % EARS;
        }

        int timeOf(int pulse) {
            return marks[pulse] / EARS;
        }

        boolean has(int mark) {
            int place = placeOf(mark);
            return place < size && marks[place] == mark;
        }

        /** Why a pulse cannot be heard, 0 if it can. */
        int refusalOf(int mark) {
            if (has(mark)) {
                return NOT_POSSIBLE;
            }
            return size < MOST_PULSES ? 0 : TOO_MANY;
        }

        int add(int mark) {
            if (size >= MOST_PULSES) {
                return TOO_MANY;
            }
            int place = placeOf(mark);
            System.arraycopy(marks, place, marks, place + 1, size - place);
            marks[place] = mark;
            size++;
            return place;
        }

        void remove(int pulse) {
            if (isPulse(pulse)) {
                size--;
                System.arraycopy(marks, pulse + 1, marks, pulse, size - pulse);
            }
        }

        void become(Heard other) {
            System.arraycopy(other.settings, 0, settings, 0, settings.length);
            System.arraycopy(other.marks, 0, marks, 0, other.size);
            size = other.size;
        }

        private int placeOf(int mark) {
            int place = 0;
            while (place < size && marks[place] < mark) {
                place++;
            }
            return place;
        }
    }

    /** The states before the latest changes, in a ring, so that dropping the oldest moves nothing. */
    private static final class History {
        private static final int MOST = 6;
        private final Heard[] states = new Heard[MOST];
        private int oldest;
        int size;

        History() {
            for (int i = 0; i < MOST; i++) {
                states[i] = new Heard();
            }
        }

        void record(Heard heard) {
            if (size == MOST) {
                oldest = (oldest + 1) % MOST;
                size--;
            }
            states[(oldest + size) % MOST].become(heard);
            size++;
        }

        void takeBack(Heard heard) {
            if (size > 0) {
                size--;
                heard.become(states[(oldest + size) % MOST]);
            }
        }
    }

    /** The text of pulses; what it says stands in marks once it has been read. */
    private static final class Pad {
        static final int MOST = 80;
        private static final int SHORTEST_PULSE = 4;
        private static final int AT_EAR = 0, AT_COLON = 1, AT_TIME = 2, IN_TIME = 3, WRONG = 4;
        private final char[] signs = new char[MOST];
        final int[] marks = new int[MOST / SHORTEST_PULSE];
        int length;
        int pulses;
        private int ear;
        private int time;

        void append(char sign) {
            if (length < MOST) {
                signs[length] = sign;
                length++;
            }
        }

        /** Reads the whole text, and returns its fault (NONE). */
        int read() {
            pulses = 0;
            int state = AT_EAR;
            for (int i = 0; i < length; i++) {
                state = step(state, signs[i]);
                if (state == WRONG) {
                    return i;
                }
            }
            if (state != IN_TIME) {
                return length;
            }
            note();
            return NONE;
        }

        private int step(int state, char sign) {
            int digit = sign - '0';
            boolean isDigit = digit >= 0 && digit <= 9;
            switch (state) {
                case AT_EAR:
                    ear = digit;
                    return isEar(digit) ? AT_COLON : WRONG;
                case AT_COLON:
                    return sign == ':' ? AT_TIME : WRONG;
                case AT_TIME:
                    time = digit;
                    return isDigit ? IN_TIME : WRONG;
                default:
                    if (sign == ';') {
                        note();
                        return AT_EAR;
                    }
                    // a time that is 0 so far began with a 0, and nothing may follow that
                    if (!isDigit || time == 0) {
                        return WRONG;
                    }
                    time = time * 10 + digit;
                    return time <= LATEST_PULSE ? IN_TIME : WRONG;
            }
        }

        private void note() {
            if (pulses < marks.length) {
                marks[pulses] = markOf(ear, time);
                pulses++;
            }
        }
    }

    /** The distances in the frame, and the times of cracks at the heat to which it was tuned last. */
    private static final class Frame {
        private static final int WIDTH = SIDE + 1;
        private final int[] distances = new int[WIDTH * WIDTH];
        private final int[] times = new int[WIDTH * WIDTH];
        private int speed;

        Frame() {
            for (int dy = 0; dy < WIDTH; dy++) {
                for (int dx = 0; dx < WIDTH; dx++) {
                    distances[dy * WIDTH + dx] = rootOf(10000 * (dx * dx + dy * dy));
                }
            }
        }

        static int speedAt(int heat) {
            return 331 + Math.floorDiv(3 * heat, 5);
        }

        void tune(int heat) {
            int wanted = speedAt(heat);
            if (wanted == speed || wanted <= 0) {
                return;
            }
            speed = wanted;
            for (int i = 0; i < times.length; i++) {
                times[i] = 100 * distances[i] / wanted;
            }
        }

        int distance(int x1, int y1, int x2, int y2) {
            return distances[Math.abs(y1 - y2) * WIDTH + Math.abs(x1 - x2)];
        }

        int crackTime(int x, int y, int ear) {
            int dx = ear == 1 || ear == 2 ? SIDE - x : x;
            int dy = ear >= 2 ? SIDE - y : y;
            return times[dy * WIDTH + dx];
        }

        /** How much longer a crack takes to ear 0 than to ear 2; at the mirrored x, to ear 1 than to ear 3. */
        int lag(int x, int y) {
            int point = y * WIDTH + x;
            return times[point] - times[times.length - 1 - point];
        }

        private static int rootOf(int square) {
            int root = 0;
            // the greatest distance is 5656, which these bits hold
            for (int bit = 4096; bit > 0; bit /= 2) {
                if ((root + bit) * (root + bit) <= square) {
                    root += bit;
                }
            }
            return root;
        }
    }

    /** Four times, one of each ear, and the place that they fit. */
    private static final class Fit {
        private static final int NOWHERE = -1;
        final int[] times = new int[EARS];
        int x;
        int y;
        int spread;

        /**
         * Looks for the place, and tells whether its spread is below the limit. No spread is less
         * than a gap between the starts of two opposite ears. The gap of ears 0 and 2 falls as x or
         * y grows; that of ears 1 and 3 rises with x and falls with y. So in each line the points
         * worth a look lie between two bounds, which from line to line only close in.
         */
        boolean search(Frame frame, int limit) {
            spread = limit;
            y = NOWHERE;
            int gap = times[0] - times[2];
            int crossGap = times[1] - times[3];
            int left = 0;
            int right = SIDE;
            for (int line = 0; line <= SIDE && left <= right; line++) {
                while (right >= 0 && gap - frame.lag(right, line) < -spread) {
                    right--;
                }
                while (left <= right && crossGap - frame.lag(SIDE - left, line) < -spread) {
                    left++;
                }
                for (int i = right; i >= left && gap - frame.lag(i, line) <= spread; i--) {
                    if (crossGap - frame.lag(SIDE - i, line) > spread) {
                        continue;
                    }
                    int there = spreadAt(frame, i, line);
                    // a line is walked from the right, so that of its equals the later one has the lesser x
                    if (there < spread || (there == spread && line == y)) {
                        x = i;
                        y = line;
                        spread = there;
                    }
                }
            }
            return y != NOWHERE;
        }

        int spreadAt(Frame frame, int atX, int atY) {
            int least = times[0] - frame.crackTime(atX, atY, 0);
            int greatest = least;
            for (int ear = 1; ear < EARS; ear++) {
                int start = times[ear] - frame.crackTime(atX, atY, ear);
                least = Math.min(least, start);
                greatest = Math.max(greatest, start);
            }
            return greatest - least;
        }

        int leastStart(Frame frame) {
            int least = times[0] - frame.crackTime(x, y, 0);
            for (int ear = 1; ear < EARS; ear++) {
                least = Math.min(least, times[ear] - frame.crackTime(x, y, ear));
            }
            return least;
        }
    }

    /** Finds the shots among pulses. */
    private static final class Finder {
        private static final int LOOKED_AT = 2;
        private static final int ROWS = 1 << EARS;
        private final Fit fit = new Fit();
        private final int[] near = new int[LOOKED_AT * EARS];
        private final int[] nearSizes = new int[EARS];
        private final int[] row = new int[EARS];

        void find(Frame frame, Heard heard, int without, Shots shots) {
            shots.reset();
            if (heard.isPulse(without)) {
                shots.owners[without] = NONE;
            }
            // with the last possible shot all pulses are used
            for (int pulse = 0; pulse < heard.size && shots.size < MOST_SHOTS; pulse++) {
                if (shots.owners[pulse] == Shots.UNUSED) {
                    judge(frame, heard, pulse, shots);
                }
            }
        }

        int spreadOf(Frame frame, Heard heard, Shot shot, int x, int y) {
            for (int ear = 0; ear < EARS; ear++) {
                fit.times[ear] = heard.timeOf(shot.pulses[ear]);
            }
            return fit.spreadAt(frame, x, y);
        }

        private void judge(Frame frame, Heard heard, int first, Shots shots) {
            shots.owners[first] = NONE;
            gather(heard, first, shots.owners);
            int limit = heard.settings[SLACK] + 1;
            boolean fitting = false;
            // a row must be below the best one before it, and none is below 0
            for (int choice = 0; choice < ROWS && limit > 0; choice++) {
                if (choose(heard, choice) && fit.search(frame, limit)) {
                    shots.draft(frame, fit, row);
                    limit = fit.spread;
                    fitting = true;
                }
            }
            if (fitting) {
                shots.accept();
            }
        }

        /** Notes the pulses that are looked at with the first one. */
        private void gather(Heard heard, int first, int[] owners) {
            for (int ear = 0; ear < EARS; ear++) {
                nearSizes[ear] = 0;
            }
            int own = heard.earOf(first);
            near[own * LOOKED_AT] = first;
            nearSizes[own] = 1;
            int latest = heard.timeOf(first) + heard.settings[WINDOW];
            for (int i = first + 1; i < heard.size && heard.timeOf(i) <= latest; i++) {
                int ear = heard.earOf(i);
                if (ear != own && owners[i] == Shots.UNUSED && nearSizes[ear] < LOOKED_AT) {
                    near[ear * LOOKED_AT + nearSizes[ear]] = i;
                    nearSizes[ear]++;
                }
            }
        }

        /**
         * Takes the row of a number, whose bits say which pulse each ear gives, ear 0 in the highest,
         * so that the numbers count the rows in their order. An ear without a pulse leaves no row.
         */
        private boolean choose(Heard heard, int choice) {
            for (int ear = 0; ear < EARS; ear++) {
                int which = (choice >> (EARS - 1 - ear)) & 1;
                if (which >= nearSizes[ear]) {
                    return false;
                }
                row[ear] = near[ear * LOOKED_AT + which];
                fit.times[ear] = heard.timeOf(row[ear]);
            }
            return true;
        }
    }

    /** The shots that were found, and to which of them each pulse belongs. */
    private static final class Shots {
        static final int UNUSED = -1;
        final Shot[] list = new Shot[MOST_SHOTS];
        final int[] owners = new int[MOST_PULSES];
        int size;

        Shots() {
            for (int i = 0; i < MOST_SHOTS; i++) {
                list[i] = new Shot();
            }
        }

        void reset() {
            size = 0;
            for (int i = 0; i < MOST_PULSES; i++) {
                owners[i] = UNUSED;
            }
        }

        boolean isShot(int shot) {
            return shot >= 0 && shot < size;
        }

        /** Writes the next shot, which does not count until it is accepted. */
        void draft(Frame frame, Fit fit, int[] row) {
            if (size < MOST_SHOTS) {
                list[size].become(frame, fit, row);
            }
        }

        void accept() {
            if (size < MOST_SHOTS) {
                for (int ear = 0; ear < EARS; ear++) {
                    owners[list[size].pulses[ear]] = size;
                }
                size++;
            }
        }

        int sumOfRings() {
            int sum = 0;
            for (int i = 0; i < size; i++) {
                sum += list[i].ring;
            }
            return sum;
        }

        int sumOfSpreads() {
            int sum = 0;
            for (int i = 0; i < size; i++) {
                sum += list[i].spread;
            }
            return sum;
        }

        int sumOfX() {
            int sum = 0;
            for (int i = 0; i < size; i++) {
                sum += list[i].x;
            }
            return sum;
        }

        int sumOfY() {
            int sum = 0;
            for (int i = 0; i < size; i++) {
                sum += list[i].y;
            }
            return sum;
        }

        int withGreatestRing() {
            int best = NONE;
            int greatest = -1;
            for (int i = 0; i < size; i++) {
                if (list[i].ring > greatest) {
                    best = i;
                    greatest = list[i].ring;
                }
            }
            return best;
        }

        int widest(Frame frame) {
            int widest = 0;
            for (int i = 0; i < size; i++) {
                for (int j = 0; j < i; j++) {
                    widest = Math.max(widest, frame.distance(list[i].x, list[i].y, list[j].x, list[j].y));
                }
            }
            return widest;
        }
    }

    /** One shot; its pulses stand by their ears. */
    private static final class Shot {
        final int[] pulses = new int[EARS];
        int x;
        int y;
        int spread;
        int moment;
        int ring;

        void become(Frame frame, Fit fit, int[] row) {
            System.arraycopy(row, 0, pulses, 0, EARS);
            x = fit.x;
            y = fit.y;
            spread = fit.spread;
            moment = fit.leastStart(frame);
            ring = Math.max(0, 10 - frame.distance(x, y, SIDE / 2, SIDE / 2) / 200);
        }

        int tell(int what) {
            switch (what) {
                case 0: return x;
                case 1: return y;
                case 2: return spread;
                case 3: return moment + 10000;
                case 4: return ring;
                case 5: return pulses[0];
                case 6: return pulses[1];
                case 7: return pulses[2];
                case 8: return pulses[3];
                default: return BAD_VALUE;
            }
        }
    }
}
