import java.util.ArrayDeque;
import java.util.Arrays;
import java.util.Deque;
import java.util.Random;
import java.util.TreeSet;
import java.util.regex.Pattern;

/**
 * Plays random calls on CrackTarget and on a plain model that follows the document word by word and
 * tries every point, and compares each answer. An argument says how many runs are played.
 */
public final class AgainstPlainModel {
    private static final int CALLS = 512;
    private static final int[] EXTREMES = {Integer.MIN_VALUE, Integer.MIN_VALUE / 4, -1, Integer.MAX_VALUE / 4 + 1, Integer.MAX_VALUE};
    private static int wrong = 0;

    public static void main(String[] args) {
        int runs = args.length > 0 ? Integer.parseInt(args[0]) : 120;
        for (int run = 0; run < runs && wrong < 10; run++) {
            play(run, new Random(run));
        }
        System.out.println(wrong == 0 ? runs + " random runs agree with the plain model" : wrong + " runs disagree");
        if (wrong != 0) {
            System.exit(1);
        }
    }

    /** Each run has a bent of its own, so that crowded and empty, strict and slack frames all come. */
    private static void play(int run, Random random) {
        CrackTarget real = new CrackTarget();
        Plain plain = new Plain();
        int span = new int[] {8, 400, 2500, 8000, 90000}[random.nextInt(5)];
        int slack = new int[] {6, 60, 300}[random.nextInt(3)];
        boolean filling = random.nextBoolean();
        for (int i = 0; i < CALLS; i++) {
            int kind = random.nextInt(filling ? 26 : 22);
            int[] a = arguments(kind, random, span, slack, plain);
            if (a.length > 0 && random.nextInt(30) == 0) {
                a[random.nextInt(a.length)] = EXTREMES[random.nextInt(EXTREMES.length)];
            }
            long characters = kind == 15 ? letters(random, plain) : 0;
            long got = call(real, kind, a, characters);
            long due = plain.call(kind, a, characters);
            if (got != due) {
                wrong++;
                System.out.println("run " + run + ", call " + i + ": method " + kind + Arrays.toString(a) + " " + characters
                        + " answered " + got + ", due is " + due);
                return;
            }
        }
    }

    private static int[] arguments(int kind, Random r, int span, int slack, Plain plain) {
        boolean odd = r.nextInt(12) == 0;
        int x = odd ? r.nextInt(60) - 10 : r.nextInt(41);
        int y = odd ? r.nextInt(60) - 10 : r.nextInt(41);
        int ear = odd ? r.nextInt(8) - 2 : r.nextInt(4);
        int time = odd ? r.nextInt(220000) - 60000 : r.nextInt(span);
        if (kind == 1 && plain.now.pulses.size() > 0 && r.nextBoolean()) {
            // near another pulse, so that rows come that are as good as another
            time = plain.now.at(r.nextInt(plain.now.pulses.size()))[0] + r.nextInt(2);
        }
        int pulse = odd ? r.nextInt(44) - 5 : r.nextInt(plain.now.pulses.size() + 1);
        int shot = odd ? r.nextInt(14) - 3 : r.nextInt(plain.now.pulses.size() / 4 + 1);
        switch (kind) {
            case 0:
                int setting = odd ? r.nextInt(9) - 3 : r.nextInt(3);
                int value = odd ? r.nextInt(9000) - 3000 : setting == 0 ? r.nextInt(81) - 30
                        : setting == 1 ? (r.nextBoolean() ? 1900 : 100 + r.nextInt(3901)) : r.nextInt(slack + 1);
                return new int[] {setting, value};
            case 1: case 22: return new int[] {ear, time};
            case 2: case 23: case 24: case 25: return new int[] {x, y, time};
            case 4: case 14: return new int[] {pulse};
            case 6: return new int[] {x, y, ear};
            case 7: return new int[] {pulse, r.nextInt(3) + (odd ? r.nextInt(3) - 1 : 0)};
            case 8: return new int[] {shot, r.nextInt(9) + (odd ? r.nextInt(3) - 1 : 0)};
            case 9: return new int[] {r.nextInt(15) - 1};
            case 10: return new int[] {shot, x, y};
            case 11: return new int[] {r.nextInt(odd ? 5 : 2) - (odd ? 2 : 0)};
            case 12: return new int[] {odd ? r.nextInt(200) - 100 : r.nextInt(81) - 30, r.nextInt(3) + (odd ? r.nextInt(3) - 1 : 0)};
            case 20: case 21: return new int[] {r.nextInt(odd ? 6 : 2) - (odd ? 2 : 0)};
            default: return new int[0];
        }
    }

    /** Mostly what continues the pad rightly, now and then anything. */
    private static long letters(Random r, Plain plain) {
        if (r.nextInt(15) == 0) {
            return r.nextBoolean() ? r.nextLong() : r.nextLong() >>> 8 * r.nextInt(9) % 64;
        }
        String text = plain.fault() == CrackTarget.NONE ? ";" : "";
        String whole = "" + r.nextInt(4) + ":" + r.nextInt(r.nextBoolean() ? 3000 : 100000);
        if (r.nextInt(12) == 0) {
            whole = new String[] {"4:1", "0:05", "1;", "2:100000", ":", "0:0", "3:99999", "1:~"}[r.nextInt(8)];
        }
        text = text + whole;
        long characters = 0;
        for (int i = 0; i < text.length() && i < 8; i++) {
            characters = characters << 8 | text.charAt(i);
        }
        return characters;
    }

    private static long call(CrackTarget c, int kind, int[] a, long characters) {
        switch (kind) {
            case 0: return c.set(a[0], a[1]);
            case 1: case 22: return c.hear(a[0], a[1]);
            case 2: case 23: case 24: case 25: return c.fire(a[0], a[1], a[2]);
            case 3: return c.hearAll();
            case 4: return c.forget(a[0]);
            case 5: return c.count(0) < 28 ? 0 : c.clear();
            case 6: return c.takes(a[0], a[1], a[2]);
            case 7: return c.pulse(a[0], a[1]);
            case 8: return c.shot(a[0], a[1]);
            case 9: return c.count(a[0]);
            case 10: return c.fits(a[0], a[1], a[2]);
            case 11: return c.mean(a[0]);
            case 12: return c.ifHeat(a[0], a[1]);
            case 13: return c.bestHeat();
            case 14: return c.ifForgot(a[0]);
            case 15: return c.put(characters);
            case 16: return c.count(11) < 60 ? 0 : c.wipe();
            case 17: return c.fault();
            case 18: return c.undo();
            case 19: return c.count(12);
            case 20: return c.save(a[0]);
            default: return c.restore(a[0]);
        }
    }

    /** A state: settings, and pulses as {time, ear} in their order. */
    private static final class State {
        int heat = 15;
        int window = 1900;
        int slack = 6;
        TreeSet<int[]> pulses = new TreeSet<>((a, b) -> a[0] != b[0] ? Integer.compare(a[0], b[0]) : Integer.compare(a[1], b[1]));

        State copy() {
            State copy = new State();
            copy.heat = heat;
            copy.window = window;
            copy.slack = slack;
            copy.pulses.addAll(pulses);
            return copy;
        }

        int number(int[] pulse) {
            return pulses.headSet(pulse).size();
        }

        int[] at(int number) {
            return pulses.toArray(new int[0][])[number];
        }
    }

    private static final class Found {
        int shots = 0;
        int[][] shot = new int[9][];   // x, y, spread, moment, ring, pulses of ears 0 to 3
        int[] owner;

        int sum(int what) {
            int sum = 0;
            for (int i = 0; i < shots; i++) {
                sum += shot[i][what];
            }
            return sum;
        }
    }

    private static final class Plain {
        static final Pattern TEXT = Pattern.compile("[0-3]:(0|[1-9][0-9]{0,4})(;[0-3]:(0|[1-9][0-9]{0,4}))*");
        State now = new State();
        Deque<State> history = new ArrayDeque<>();
        State[] slots = new State[2];
        String pad = "";
        private Found kept;

        static int distance(int x1, int y1, int x2, int y2) {
            return (int) Math.sqrt(10000.0 * ((x1 - x2) * (x1 - x2) + (y1 - y2) * (y1 - y2)));
        }

        static int speed(int heat) {
            return 331 + (int) Math.floor(3 * heat / 5.0);
        }

        static int takes(int x, int y, int ear, int heat) {
            int[] ex = {0, 40, 40, 0};
            int[] ey = {0, 0, 40, 40};
            return 100 * distance(x, y, ex[ear], ey[ear]) / speed(heat);
        }

        void change() {
            history.addLast(now.copy());
            if (history.size() > 6) {
                history.removeFirst();
            }
            kept = null;
        }

        Found found() {
            if (kept == null) {
                kept = find(now.heat, -1);
            }
            return kept;
        }

        Found find(int heat, int without) {
            Found f = new Found();
            int[][] p = now.pulses.toArray(new int[0][]);
            f.owner = new int[p.length];
            Arrays.fill(f.owner, CrackTarget.NONE);
            boolean[] used = new boolean[p.length];
            if (without >= 0) {
                used[without] = true;
            }
            int[][][] takes = new int[4][41][41];
            for (int ear = 0; ear < 4; ear++) {
                for (int y = 0; y <= 40; y++) {
                    for (int x = 0; x <= 40; x++) {
                        takes[ear][y][x] = takes(x, y, ear, heat);
                    }
                }
            }
            for (int first = 0; first < p.length; first++) {
                if (!used[first]) {
                    used[first] = true;
                    int[] best = best(p, used, first, takes);
                    if (best != null && best[2] <= now.slack) {
                        best[4] = Math.max(0, 10 - distance(best[0], best[1], 20, 20) / 200);
                        for (int ear = 0; ear < 4; ear++) {
                            used[best[5 + ear]] = true;
                            f.owner[best[5 + ear]] = f.shots;
                        }
                        f.shot[f.shots++] = best;
                    }
                }
            }
            return f;
        }

        int[] best(int[][] p, boolean[] used, int first, int[][][] takes) {
            int[][] near = new int[4][];
            for (int ear = 0; ear < 4; ear++) {
                int[] two = new int[2];
                int n = 0;
                for (int i = 0; i < p.length && n < 2; i++) {
                    boolean looked = p[i][1] == ear && !used[i] && p[i][0] >= p[first][0] && p[i][0] <= p[first][0] + now.window;
                    if (ear == p[first][1] ? i == first : looked) {
                        two[n++] = i;
                    }
                }
                if (n == 0) {
                    return null;
                }
                near[ear] = Arrays.copyOf(two, n);
            }
            int[] best = null;
            for (int a : near[0]) {
                for (int b : near[1]) {
                    for (int c : near[2]) {
                        for (int d : near[3]) {
                            int[] place = place(p, new int[] {a, b, c, d}, takes);
                            if (best == null || place[2] < best[2]) {
                                best = place;
                            }
                        }
                    }
                }
            }
            return best;
        }

        int[] place(int[][] p, int[] row, int[][][] takes) {
            int[] best = null;
            for (int y = 0; y <= 40; y++) {
                for (int x = 0; x <= 40; x++) {
                    int least = Integer.MAX_VALUE;
                    int greatest = Integer.MIN_VALUE;
                    for (int ear = 0; ear < 4; ear++) {
                        int start = p[row[ear]][0] - takes[ear][y][x];
                        least = Math.min(least, start);
                        greatest = Math.max(greatest, start);
                    }
                    if (best == null || greatest - least < best[2]) {
                        best = new int[] {x, y, greatest - least, least, 0, row[0], row[1], row[2], row[3]};
                    }
                }
            }
            return best;
        }

        long call(int kind, int[] a, long characters) {
            switch (kind) {
                case 0: return set(a[0], a[1]);
                case 1: case 22: return hear(a[0], a[1]);
                case 2: case 23: case 24: case 25: return fire(a[0], a[1], a[2]);
                case 3: return hearAll();
                case 4: return forget(a[0]);
                case 5: return now.pulses.size() < 28 ? 0 : clear();
                case 6: return !point(a[0], a[1]) || a[2] < 0 || a[2] > 3 ? -1 : takes(a[0], a[1], a[2], now.heat);
                case 7: return pulse(a[0], a[1]);
                case 8: return a[0] < 0 || a[0] >= found().shots ? -1 : a[1] < 0 || a[1] > 8 ? -2
                        : found().shot[a[0]][a[1]] + (a[1] == 3 ? 10000 : 0);
                case 9: return count(a[0]);
                case 10: return fits(a[0], a[1], a[2]);
                case 11: return a[0] < 0 || a[0] > 1 ? -2 : found().shots == 0 ? -6 : found().sum(a[0]) * 100 / found().shots;
                case 12: return ifHeat(a[0], a[1]);
                case 13: return bestHeat();
                case 14: return a[0] < 0 || a[0] >= now.pulses.size() ? -1 : find(now.heat, a[0]).shots;
                case 15: return put(characters);
                case 16: return pad.length() < 60 ? 0 : wipe();
                case 17: return fault();
                case 18: return undo();
                case 19: return history.size();
                case 20: return save(a[0]);
                default: return restore(a[0]);
            }
        }

        static boolean point(int x, int y) {
            return x >= 0 && x <= 40 && y >= 0 && y <= 40;
        }

        int set(int setting, int value) {
            int before;
            if (setting == 0 && value >= -30 && value <= 50) {
                before = now.heat;
                change();
                now.heat = value;
            } else if (setting == 1 && value >= 100 && value <= 4000) {
                before = now.window;
                change();
                now.window = value;
            } else if (setting == 2 && value >= 0 && value <= 300) {
                before = now.slack;
                change();
                now.slack = value;
            } else {
                return -2;
            }
            return before + 100;
        }

        int hearing(int ear, int time) {
            if (ear < 0 || ear > 3) {
                return -1;
            }
            if (time < 0 || time > 99999) {
                return -2;
            }
            if (now.pulses.contains(new int[] {time, ear})) {
                return -5;
            }
            return now.pulses.size() == 32 ? -4 : 0;
        }

        int hear(int ear, int time) {
            int error = hearing(ear, time);
            if (error != 0) {
                return error;
            }
            change();
            now.pulses.add(new int[] {time, ear});
            return now.number(new int[] {time, ear});
        }

        int fire(int x, int y, int time) {
            if (!point(x, y)) {
                return -1;
            }
            if (time < 0 || time > 90000) {
                return -2;
            }
            for (int ear = 0; ear < 4; ear++) {
                if (now.pulses.contains(new int[] {time + takes(x, y, ear, now.heat), ear})) {
                    return -5;
                }
            }
            if (now.pulses.size() > 28) {
                return -4;
            }
            change();
            for (int ear = 0; ear < 4; ear++) {
                now.pulses.add(new int[] {time + takes(x, y, ear, now.heat), ear});
            }
            return now.pulses.size();
        }

        int hearAll() {
            if (!TEXT.matcher(pad).matches()) {
                return -3;
            }
            change();
            int heard = 0;
            for (String pulse : pad.split(";")) {
                int ear = pulse.charAt(0) - '0';
                int time = Integer.parseInt(pulse.substring(2));
                if (hearing(ear, time) != 0) {
                    break;
                }
                now.pulses.add(new int[] {time, ear});
                heard++;
            }
            pad = "";
            return heard;
        }

        int forget(int pulse) {
            if (pulse < 0 || pulse >= now.pulses.size()) {
                return -1;
            }
            change();
            int[] gone = now.at(pulse);
            now.pulses.remove(gone);
            return gone[0];
        }

        int clear() {
            change();
            int before = now.pulses.size();
            now.pulses.clear();
            return before;
        }

        int pulse(int pulse, int what) {
            if (pulse < 0 || pulse >= now.pulses.size()) {
                return -1;
            }
            return what == 0 ? now.at(pulse)[1] : what == 1 ? now.at(pulse)[0] : what == 2 ? found().owner[pulse] : -2;
        }

        int count(int what) {
            Found f = found();
            switch (what) {
                case 0: return now.pulses.size();
                case 1: return f.shots;
                case 2:
                    int strays = 0;
                    for (int owner : f.owner) {
                        strays += owner == -6 ? 1 : 0;
                    }
                    return strays;
                case 3: return f.sum(4);
                case 4:
                    int best = -6;
                    for (int i = f.shots - 1; i >= 0; i--) {
                        best = best == -6 || f.shot[i][4] >= f.shot[best][4] ? i : best;
                    }
                    return best;
                case 5: return f.sum(2);
                case 6:
                    int widest = 0;
                    for (int i = 0; i < f.shots; i++) {
                        for (int j = 0; j < f.shots; j++) {
                            widest = Math.max(widest, distance(f.shot[i][0], f.shot[i][1], f.shot[j][0], f.shot[j][1]));
                        }
                    }
                    return widest;
                case 7: return speed(now.heat);
                case 8: return now.heat + 100;
                case 9: return now.window;
                case 10: return now.slack;
                case 11: return pad.length();
                case 12: return history.size();
                default: return -2;
            }
        }

        int fits(int shot, int x, int y) {
            if (shot < 0 || shot >= found().shots || !point(x, y)) {
                return -1;
            }
            int[] starts = new int[4];
            for (int ear = 0; ear < 4; ear++) {
                starts[ear] = now.at(found().shot[shot][5 + ear])[0] - takes(x, y, ear, now.heat);
            }
            Arrays.sort(starts);
            return starts[3] - starts[0];
        }

        int ifHeat(int heat, int what) {
            if (heat < -30 || heat > 50 || what < 0 || what > 2) {
                return -2;
            }
            Found f = find(heat, -1);
            return what == 0 ? f.shots : what == 1 ? f.sum(4) : f.sum(2);
        }

        int bestHeat() {
            int best = -30;
            for (int heat = -20; heat <= 50; heat += 10) {
                Found f = find(heat, -1);
                Found old = find(best, -1);
                if (f.shots > old.shots || f.shots == old.shots && f.sum(2) < old.sum(2)) {
                    best = heat;
                }
            }
            return best + 100;
        }

        int put(long characters) {
            StringBuilder text = new StringBuilder();
            boolean over = false;
            for (int i = 0; i < 8; i++) {
                int code = (int) (characters >>> 8 * i) & 255;
                over |= code == 0;
                if (over ? code != 0 : code < 33 || code > 126) {
                    return -2;
                }
                if (!over) {
                    text.insert(0, (char) code);
                }
            }
            if (text.length() == 0) {
                return -2;
            }
            if (pad.length() + text.length() > 80) {
                return -4;
            }
            pad += text;
            return pad.length();
        }

        int wipe() {
            int before = pad.length();
            pad = "";
            return before;
        }

        /** A text can still become right if some ending makes it so. */
        int fault() {
            for (int i = 0; i < pad.length(); i++) {
                String begun = pad.substring(0, i + 1);
                boolean can = false;
                for (String ending : new String[] {"", "0", ":0", "0:0"}) {
                    can |= TEXT.matcher(begun + ending).matches();
                }
                if (!can) {
                    return i;
                }
            }
            return TEXT.matcher(pad).matches() ? -6 : pad.length();
        }

        int undo() {
            if (history.isEmpty()) {
                return -5;
            }
            now = history.removeLast();
            kept = null;
            return history.size();
        }

        int save(int slot) {
            if (slot < 0 || slot > 1) {
                return -2;
            }
            slots[slot] = now.copy();
            return now.pulses.size();
        }

        int restore(int slot) {
            if (slot < 0 || slot > 1) {
                return -2;
            }
            if (slots[slot] == null) {
                return -5;
            }
            change();
            now = slots[slot].copy();
            return now.pulses.size();
        }
    }
}
