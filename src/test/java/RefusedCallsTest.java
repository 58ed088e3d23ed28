import java.util.function.Supplier;
import java.util.function.ToIntFunction;

/**
 * "A call that returns an error changes nothing", "the first one that applies is returned", and "nothing
 * changes" by asking: each refused call and each question, on an object that is new, one in use, one in which
 * all is full, and one whose pad has a fault.
 */
public final class RefusedCallsTest extends Check {
    private static final int[] OUTSIDE = {LOW, -1, 41, HIGH};

    public static void main(String[] args) {
        changesNew();
        changesUsed();
        changesFull();
        changesHurt();
        end();
    }

    private static CrackTarget used() {
        CrackTarget c = new CrackTarget();
        c.set(HEAT, 20);
        c.fire(30, 12, 4000);
        c.save(1);
        c.hear(2, 99);
        c.fire(20, 25, 0);
        type(c, "0:5;1:7;3:99999");
        return c;
    }

    /** 32 pulses, 6 changes to be undone, two saved states, and a pad of 80 characters. */
    private static CrackTarget full() {
        CrackTarget c = new CrackTarget();
        c.save(1);
        for (int i = 0; i < 7; i++) {
            c.fire(5 * i, 40 - 3 * i, 3000 * i);
        }
        heard(c, 99999, 70000, 70000, 70000);
        c.save(0);
        c.set(SLACK, 40);
        type(c, "0:0;1:1;2:2;3:3;0:4;1:5;2:6;3:7;0:8;1:9;0:1;1:2;2:3;3:4;0:5;1:6;2:7;3:8;0:9;1:10");
        return c;
    }

    private static CrackTarget hurt() {
        CrackTarget c = used();
        type(c, ";4:1;0:0");
        return c;
    }

    private static void changesNew() {
        test("a new object");
        Supplier<CrackTarget> begin = CrackTarget::new;
        refusedEverywhere(begin, 0, 0);
        harmless(begin);
        leaves("hearAll()", BAD_TEXT, begin, CrackTarget::hearAll);
        leaves("undo()", NOT_POSSIBLE, begin, CrackTarget::undo);
        leaves("restore(0)", NOT_POSSIBLE, begin, c -> c.restore(0));
        leaves("restore(1)", NOT_POSSIBLE, begin, c -> c.restore(1));
        leaves("mean(0)", NONE, begin, c -> c.mean(0));
        leaves("wipe()", 0, begin, CrackTarget::wipe);
    }

    private static void changesUsed() {
        test("an object in use");
        Supplier<CrackTarget> begin = RefusedCallsTest::used;
        due("pulses", 9, used().count(0));
        due("shots", 2, used().count(1));
        refusedEverywhere(begin, 9, 2);
        harmless(begin);
        leaves("hear(2, 99)", NOT_POSSIBLE, begin, c -> c.hear(2, 99));
        leaves("fire(20, 25, 0)", NOT_POSSIBLE, begin, c -> c.fire(20, 25, 0));
        leaves("restore(0)", NOT_POSSIBLE, begin, c -> c.restore(0));
    }

    private static void changesFull() {
        test("an object in which all is full");
        Supplier<CrackTarget> begin = RefusedCallsTest::full;
        due("pulses", 32, full().count(0));
        due("shots", 7, full().count(1));
        due("length of the pad", 80, full().count(11));
        due("changes", 6, full().count(12));
        refusedEverywhere(begin, 32, 7);
        harmless(begin);
        leaves("hear(0, 60000)", TOO_MANY, begin, c -> c.hear(0, 60000));
        leaves("hear(0, 99999)", NOT_POSSIBLE, begin, c -> c.hear(0, 99999));
        leaves("fire(20, 20, 60000)", TOO_MANY, begin, c -> c.fire(20, 20, 60000));
        leaves("fire(0, 40, 0)", NOT_POSSIBLE, begin, c -> c.fire(0, 40, 0));
        leaves("put(';')", TOO_MANY, begin, c -> c.put(';'));
        leaves("put(8 characters)", TOO_MANY, begin, c -> c.put(letters(";0:12345")));
    }

    private static void changesHurt() {
        test("an object whose pad has a fault");
        Supplier<CrackTarget> begin = RefusedCallsTest::hurt;
        due("fault()", 16, hurt().fault());
        refusedEverywhere(begin, 9, 2);
        leaves("hearAll()", BAD_TEXT, begin, CrackTarget::hearAll);
        leaves("fault()", 16, begin, CrackTarget::fault);
    }

    /** What is refused in any state, with pulses and shots as many as given. */
    private static void refusedEverywhere(Supplier<CrackTarget> begin, int pulses, int shots) {
        refusedValues(begin);
        refusedPoints(begin);
        refusedTexts(begin);
        for (int pulse : new int[] {LOW, -1, pulses, 32, HIGH}) {
            leaves("forget(" + pulse + ")", NO_SUCH, begin, c -> c.forget(pulse));
            leaves("ifForgot(" + pulse + ")", NO_SUCH, begin, c -> c.ifForgot(pulse));
            for (int what : new int[] {-1, 0, 2, 3}) {
                leaves("pulse(" + pulse + ", " + what + ")", NO_SUCH, begin, c -> c.pulse(pulse, what));
            }
        }
        for (int shot : new int[] {LOW, -1, shots, 8, HIGH}) {
            for (int what : new int[] {-1, 0, 8, 9}) {
                leaves("shot(" + shot + ", " + what + ")", NO_SUCH, begin, c -> c.shot(shot, what));
            }
            leaves("fits(" + shot + ", 20, 20)", NO_SUCH, begin, c -> c.fits(shot, 20, 20));
        }
        for (int what : new int[] {LOW, -1, HIGH}) {
            if (pulses > 0) {
                leaves("pulse(0, " + what + ")", BAD_VALUE, begin, c -> c.pulse(0, what));
                leaves("shot(0, " + what + ")", BAD_VALUE, begin, c -> c.shot(0, what));
            }
            leaves("count(" + what + ")", BAD_VALUE, begin, c -> c.count(what));
            leaves("mean(" + what + ")", BAD_VALUE, begin, c -> c.mean(what));
            leaves("ifHeat(15, " + what + ")", BAD_VALUE, begin, c -> c.ifHeat(15, what));
        }
    }

    private static void refusedValues(Supplier<CrackTarget> begin) {
        int[][] settings = {{LOW, 100}, {-1, 100}, {3, 100}, {HIGH, 100}, {-1, LOW}, {3, HIGH},
            {HEAT, LOW}, {HEAT, -31}, {HEAT, 51}, {HEAT, HIGH}, {WINDOW, LOW}, {WINDOW, 99}, {WINDOW, 4001}, {WINDOW, HIGH},
            {SLACK, LOW}, {SLACK, -1}, {SLACK, 301}, {SLACK, HIGH}};
        for (int[] s : settings) {
            leaves("set(" + s[0] + ", " + s[1] + ")", BAD_VALUE, begin, c -> c.set(s[0], s[1]));
        }
        int[][] heats = {{LOW, 0}, {-31, 0}, {51, 0}, {HIGH, 0}, {-31, -1}, {51, 3}, {-30, 3}, {50, -1}};
        for (int[] h : heats) {
            leaves("ifHeat(" + h[0] + ", " + h[1] + ")", BAD_VALUE, begin, c -> c.ifHeat(h[0], h[1]));
        }
        for (int slot : new int[] {LOW, -1, 2, HIGH}) {
            leaves("save(" + slot + ")", BAD_VALUE, begin, c -> c.save(slot));
            leaves("restore(" + slot + ")", BAD_VALUE, begin, c -> c.restore(slot));
        }
        for (int time : new int[] {LOW, -1, 100000, HIGH}) {
            leaves("hear(3, " + time + ")", BAD_VALUE, begin, c -> c.hear(3, time));
        }
        for (int ear : new int[] {LOW, -1, 4, HIGH}) {
            leaves("takes(20, 20, " + ear + ")", NO_SUCH, begin, c -> c.takes(20, 20, ear));
            for (int time : new int[] {-1, 0, 99999, 100000}) {
                leaves("hear(" + ear + ", " + time + ")", NO_SUCH, begin, c -> c.hear(ear, time));
            }
        }
    }

    private static void refusedPoints(Supplier<CrackTarget> begin) {
        for (int time : new int[] {LOW, -1, 90001, HIGH}) {
            leaves("fire(20, 20, " + time + ")", BAD_VALUE, begin, c -> c.fire(20, 20, time));
        }
        for (int far : OUTSIDE) {
            for (int time : new int[] {-1, 0, 90001}) {
                leaves("fire(" + far + ", 20, " + time + ")", NO_SUCH, begin, c -> c.fire(far, 20, time));
                leaves("fire(20, " + far + ", " + time + ")", NO_SUCH, begin, c -> c.fire(20, far, time));
            }
            leaves("takes(" + far + ", 20, 0)", NO_SUCH, begin, c -> c.takes(far, 20, 0));
            leaves("takes(20, " + far + ", 3)", NO_SUCH, begin, c -> c.takes(20, far, 3));
            leaves("fits(0, " + far + ", 20)", NO_SUCH, begin, c -> c.fits(0, far, 20));
            leaves("fits(0, 20, " + far + ")", NO_SUCH, begin, c -> c.fits(0, 20, far));
        }
    }

    private static void refusedTexts(Supplier<CrackTarget> begin) {
        long[] refused = {0, 1, 32, 127, 128, 255, letters("0:1 "), '0' << 16 | 127 << 8 | '1', (long) '0' << 8, (long) '0' << 16 | '1',
            (long) '0' << 56, 1L << 63 | '0', (long) 128 << 56 | letters("1234567"), Long.MIN_VALUE, Long.MAX_VALUE, -1};
        for (long characters : refused) {
            leaves("put(" + characters + ")", BAD_VALUE, begin, c -> c.put(characters));
        }
    }

    /** Asking changes nothing; the answers themselves are due in other tests. */
    private static void harmless(Supplier<CrackTarget> begin) {
        asked("takes(3, 4, 1)", begin, c -> c.takes(3, 4, 1));
        for (int what = 0; what <= 12; what++) {
            int which = what;
            asked("count(" + what + ")", begin, c -> c.count(which));
        }
        for (int what = 0; what <= 2; what++) {
            int which = what;
            asked("pulse(0, " + what + ")", begin, c -> c.pulse(0, which));
            asked("ifHeat(-30, " + what + ")", begin, c -> c.ifHeat(-30, which));
            asked("ifHeat(50, " + what + ")", begin, c -> c.ifHeat(50, which));
        }
        for (int what = 0; what <= 8; what++) {
            int which = what;
            asked("shot(0, " + what + ")", begin, c -> c.shot(0, which));
        }
        asked("fits(0, 40, 40)", begin, c -> c.fits(0, 40, 40));
        asked("mean(0)", begin, c -> c.mean(0));
        asked("mean(1)", begin, c -> c.mean(1));
        asked("bestHeat()", begin, CrackTarget::bestHeat);
        asked("ifForgot(0)", begin, c -> c.ifForgot(0));
        asked("ifForgot(4)", begin, c -> c.ifForgot(4));
        asked("fault()", begin, CrackTarget::fault);
    }

    private static void asked(String call, Supplier<CrackTarget> begin, ToIntFunction<CrackTarget> asking) {
        leaves(call, asking.applyAsInt(begin.get()), begin, asking);
    }
}
