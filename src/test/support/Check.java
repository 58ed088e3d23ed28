import java.util.function.Function;
import java.util.function.Supplier;
import java.util.function.ToIntFunction;

/** What the tests share: a test extends this class, names what it tests, and tells what is due. */
abstract class Check {
    static final int NO_SUCH = -1, BAD_VALUE = -2, BAD_TEXT = -3, TOO_MANY = -4, NOT_POSSIBLE = -5, NONE = -6;
    static final int LOW = Integer.MIN_VALUE, HIGH = Integer.MAX_VALUE;
    static final int HEAT = 0, WINDOW = 1, SLACK = 2;
    static final int MOST_UNDONE = 6;
    private static int wrong = 0;
    private static int named = 0;
    private static String name = "";

    /** Names what the following answers test. */
    static void test(String what) {
        name = what;
        named++;
    }

    static void due(String call, long want, long got) {
        due(call, Long.toString(want), Long.toString(got));
    }

    static void due(String call, String want, String got) {
        if (!want.equals(got)) {
            wrong++;
            System.out.println(name + ": " + call + " answered " + got + ", due is " + want);
        }
    }

    static void end() {
        System.out.println(wrong == 0 ? named + " tests hold" : wrong + " answers are not as due");
        if (wrong != 0) {
            System.exit(1);
        }
    }

    /** Puts a text, eight characters at a time. */
    static void type(CrackTarget c, String text) {
        for (int i = 0; i < text.length(); i += 8) {
            c.put(letters(text.substring(i, Math.min(i + 8, text.length()))));
        }
    }

    static long letters(String text) {
        long characters = 0;
        for (char sign : text.toCharArray()) {
            characters = characters << 8 | sign;
        }
        return characters;
    }

    /** Hears a pulse of each ear at the four times. */
    static void heard(CrackTarget c, int... times) {
        for (int ear = 0; ear < times.length; ear++) {
            c.hear(ear, times[ear]);
        }
    }

    /** A new object that has heard a pulse of each ear at the four times, with a SLACK. */
    static CrackTarget hearing(int slack, int... times) {
        CrackTarget c = new CrackTarget();
        c.set(SLACK, slack);
        heard(c, times);
        return c;
    }

    /** Whether a call answers what is due, and changes nothing, whichever way one looks at the object then. */
    static void leaves(String call, long want, Supplier<CrackTarget> begin, ToIntFunction<CrackTarget> calling) {
        same(call, want, begin, calling, Check::all);
        same(call, want, begin, calling, Check::text);
        for (int i = 1; i <= MOST_UNDONE; i++) {
            int times = i;
            same(call, want, begin, calling, c -> undone(c, times));
        }
        same(call, want, begin, calling, c -> restored(c, 0));
        same(call, want, begin, calling, c -> restored(c, 1));
    }

    private static void same(String call, long want, Supplier<CrackTarget> begin, ToIntFunction<CrackTarget> calling,
            Function<CrackTarget, String> look) {
        CrackTarget touched = begin.get();
        due(call, want, calling.applyAsInt(touched));
        due("all after " + call, look.apply(begin.get()), look.apply(touched));
    }

    /** All that can be asked. */
    static String all(CrackTarget c) {
        StringBuilder all = new StringBuilder(kept(c));
        for (int what = 0; what <= 12; what++) {
            all.append(" count ").append(c.count(what));
        }
        for (int pulse = 0; pulse < c.count(0); pulse++) {
            all.append(" of ").append(c.pulse(pulse, 2)).append(" without ").append(c.ifForgot(pulse));
        }
        for (int shot = 0; shot < c.count(1); shot++) {
            all.append(" shot");
            for (int what = 0; what <= 8; what++) {
                all.append(' ').append(c.shot(shot, what));
            }
            all.append(" fits ").append(c.fits(shot, 0, 40));
        }
        all.append(" mean ").append(c.mean(0)).append(' ').append(c.mean(1));
        all.append(" if ").append(c.ifHeat(-30, 0)).append(' ').append(c.ifHeat(15, 1)).append(' ').append(c.ifHeat(50, 2));
        all.append(" best ").append(c.bestHeat()).append(" takes ").append(c.takes(0, 0, 2));
        return all.append(" fault ").append(c.fault()).toString();
    }

    /** The settings and the pulses. */
    static String kept(CrackTarget c) {
        StringBuilder kept = new StringBuilder();
        for (int what = 8; what <= 10; what++) {
            kept.append(c.count(what)).append(' ');
        }
        for (int pulse = 0; pulse < c.count(0); pulse++) {
            kept.append(' ').append(c.pulse(pulse, 0)).append(':').append(c.pulse(pulse, 1));
        }
        return kept.toString();
    }

    private static String undone(CrackTarget c, int times) {
        int left = 0;
        for (int i = 0; i < times; i++) {
            left = c.undo();
        }
        return left + " left, " + kept(c);
    }

    private static String restored(CrackTarget c, int slot) {
        return c.restore(slot) + " restored, " + kept(c);
    }

    private static String text(CrackTarget c) {
        c.clear();
        return c.fault() + " fault, " + c.hearAll() + " heard, " + kept(c) + ", " + c.wipe() + " left";
    }
}
