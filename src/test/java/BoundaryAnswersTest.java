/** The boundary cases of the promises 8 to 16 of ../shared/DOC.md: each has a test of its own. */
public final class BoundaryAnswersTest extends Check {
    private static final int[] FAR = {LOW, -1, 41, HIGH};

    public static void main(String[] args) {
        takesPoint();
        takesEar();
        takesLeastAndGreatest();
        pulseNone();
        pulseOfFull();
        pulseWhat();
        pulseErrorsInOrder();
        shotNone();
        shotWhat();
        shotPulsesByEars();
        shotErrorsInOrder();
        countWhat();
        countEmpty();
        countStrays();
        greatestRing();
        greatestRingOfZero();
        widestOfFewerThanTwo();
        widestOfMany();
        sums();
        fitsShot();
        fitsPoint();
        fitsCorners();
        meanWhich();
        meanOfNone();
        meanOfOne();
        meanRoundedDown();
        meanOfEight();
        ifHeatRange();
        ifHeatWhat();
        ifHeatOfNone();
        ifHeatIsAsSet();
        bestHeatOfNone();
        bestHeatLeast();
        bestHeatEnds();
        bestHeatMostShots();
        bestHeatLeastSpreads();
        bestHeatTensOnly();
        ifForgotNone();
        ifForgotStray();
        ifForgotOfShot();
        ifForgotBringsMore();
        ifForgotIsAsForgotten();
        end();
    }

    private static CrackTarget fired(int... points) {
        CrackTarget c = new CrackTarget();
        for (int i = 0; i + 1 < points.length; i += 2) {
            c.fire(points[i], points[i + 1], 5000 * i);
        }
        return c;
    }

    private static void takesPoint() {
        test("8: NO_SUCH if there is no such point");
        CrackTarget c = new CrackTarget();
        for (int far : FAR) {
            for (int near = 0; near <= 40; near += 20) {
                for (int ear = 0; ear < 4; ear++) {
                    due("x " + far, NO_SUCH, c.takes(far, near, ear));
                    due("y " + far, NO_SUCH, c.takes(near, far, ear));
                }
            }
        }
    }

    private static void takesEar() {
        test("8: NO_SUCH if there is no such ear");
        CrackTarget c = new CrackTarget();
        for (int ear : new int[] {LOW, -1, 4, HIGH}) {
            due("ear " + ear, NO_SUCH, c.takes(0, 0, ear));
            due("ear " + ear + " and no point", NO_SUCH, c.takes(41, -1, ear));
        }
    }

    private static void takesLeastAndGreatest() {
        test("8: the least and the greatest time, at the least and the greatest HEAT");
        int[][] heats = {{-30, 1807, 31}, {15, 1663, 29}, {50, 1566, 27}};
        for (int[] heat : heats) {
            CrackTarget c = new CrackTarget();
            c.set(HEAT, heat[0]);
            due("at an ear", 0, c.takes(0, 40, 3));
            due("across", heat[1], c.takes(0, 40, 1));
            due("a step off", heat[2], c.takes(1, 40, 3));
        }
    }

    private static void pulseNone() {
        test("9: NO_SUCH if there is no such pulse");
        CrackTarget c = new CrackTarget();
        for (int what = 0; what <= 2; what++) {
            due("nothing heard", NO_SUCH, c.pulse(0, what));
        }
        c.hear(2, 7);
        for (int pulse : new int[] {LOW, -1, 1, 32, HIGH}) {
            for (int what = 0; what <= 2; what++) {
                due("pulse(" + pulse + ", " + what + ")", NO_SUCH, c.pulse(pulse, what));
            }
        }
        due("the only one", 7, c.pulse(0, 1));
    }

    private static void pulseOfFull() {
        test("9: the first and the last of 32");
        CrackTarget c = new CrackTarget();
        for (int i = 0; i < 32; i++) {
            c.hear(i % 4, 3000 * i);
        }
        due("ear of the first", 0, c.pulse(0, 0));
        due("ear of the last", 3, c.pulse(31, 0));
        due("time of the last", 93000, c.pulse(31, 1));
        due("a stray", NONE, c.pulse(31, 2));
        for (int what = 0; what <= 2; what++) {
            due("no 33rd", NO_SUCH, c.pulse(32, what));
        }
    }

    private static void pulseWhat() {
        test("9: BAD_VALUE if what is out of range, 0 to 2");
        CrackTarget c = new CrackTarget();
        c.hear(3, 8);
        for (int what : new int[] {LOW, -1, 3, HIGH}) {
            due("what " + what, BAD_VALUE, c.pulse(0, what));
        }
        due("0, its ear", 3, c.pulse(0, 0));
        due("1, its time", 8, c.pulse(0, 1));
        due("2, NONE for a stray", NONE, c.pulse(0, 2));
    }

    private static void pulseErrorsInOrder() {
        test("9: NO_SUCH, BAD_VALUE, in this order");
        CrackTarget c = fired(20, 20);
        due("neither", NO_SUCH, c.pulse(4, 3));
        due("neither", NO_SUCH, c.pulse(-1, -1));
    }

    private static void shotNone() {
        test("10: NO_SUCH if there is no such shot");
        CrackTarget c = new CrackTarget();
        for (int what = 0; what <= 8; what++) {
            due("nothing heard", NO_SUCH, c.shot(0, what));
        }
        c.fire(20, 20, 0);
        for (int shot : new int[] {LOW, -1, 1, 7, 8, HIGH}) {
            for (int what = 0; what <= 8; what++) {
                due("shot(" + shot + ", " + what + ")", NO_SUCH, c.shot(shot, what));
            }
        }
        due("the only one", 20, c.shot(0, 0));
        c.forget(0);
        due("none with a pulse less", NO_SUCH, c.shot(0, 0));
    }

    private static void shotWhat() {
        test("10: BAD_VALUE if what is out of range, 0 to 8");
        CrackTarget c = fired(23, 16);
        for (int what : new int[] {LOW, -1, 9, HIGH}) {
            due("what " + what, BAD_VALUE, c.shot(0, what));
        }
        int[] due = {23, 16, 0, 10000, 8, 1, 0, 2, 3};
        for (int what = 0; what <= 8; what++) {
            due("what " + what, due[what], c.shot(0, what));
        }
    }

    private static void shotPulsesByEars() {
        test("10: 5 to 8, the numbers of the pulses of the ears 0 to 3");
        int[][] corners = {{0, 0}, {40, 0}, {40, 40}, {0, 40}};
        for (int[] corner : corners) {
            CrackTarget c = fired(corner);
            c.hear(2, 90000);
            for (int ear = 0; ear < 4; ear++) {
                due("ear " + ear, ear, c.pulse(c.shot(0, 5 + ear), 0));
            }
        }
    }

    private static void shotErrorsInOrder() {
        test("10: NO_SUCH, BAD_VALUE, in this order");
        CrackTarget c = fired(20, 20);
        due("neither", NO_SUCH, c.shot(1, 9));
        due("neither", NO_SUCH, c.shot(-1, -1));
    }

    private static void countWhat() {
        test("11: BAD_VALUE if what is out of range, 0 to 12");
        CrackTarget c = new CrackTarget();
        for (int what : new int[] {LOW, -1, 13, HIGH}) {
            due("what " + what, BAD_VALUE, c.count(what));
        }
        due("0", 0, c.count(0));
        due("12", 0, c.count(12));
    }

    private static void countEmpty() {
        test("11: all numbers where there is nothing, the heat at its ends");
        CrackTarget c = new CrackTarget();
        c.set(HEAT, -30);
        due("heat, and 100", 70, c.count(8));
        due("speed", 313, c.count(7));
        c.set(HEAT, 50);
        due("heat, and 100", 150, c.count(8));
        due("speed", 361, c.count(7));
        for (int what : new int[] {0, 1, 2, 3, 5, 6, 11}) {
            due("count(" + what + ")", 0, c.count(what));
        }
        due("no shot with the greatest ring", NONE, c.count(4));
    }

    private static void countStrays() {
        test("11: strays, none and all of 32");
        due("none", 0, fired(20, 20, 3, 3).count(2));
        CrackTarget c = new CrackTarget();
        for (int i = 0; i < 32; i++) {
            c.hear(1, i);
        }
        due("all", 32, c.count(2));
        due("no shot", 0, c.count(1));
        due("no shot with the greatest ring", NONE, c.count(4));
    }

    private static void greatestRing() {
        test("11: the shot with the greatest ring, of several the first one");
        due("one", 0, fired(3, 3).count(4));
        due("the later one", 1, fired(3, 3, 20, 20).count(4));
        due("the first of two", 0, fired(20, 20, 20, 20).count(4));
        due("the first of two with other places", 1, fired(0, 0, 20, 25, 25, 20, 5, 5).count(4));
        due("the last of eight", 7, fired(0, 0, 0, 9, 9, 9, 9, 0, 0, 5, 5, 5, 5, 0, 20, 20).count(4));
    }

    private static void greatestRingOfZero() {
        test("11: the shot with the greatest ring, though it is 0");
        due("one", 0, fired(0, 0).count(4));
        due("two", 0, fired(0, 0, 40, 40).count(4));
    }

    private static void widestOfFewerThanTwo() {
        test("11: the greatest distance is 0 with fewer than two shots");
        due("none", 0, new CrackTarget().count(6));
        due("one", 0, fired(0, 0).count(6));
        due("two", 5656, fired(0, 0, 40, 40).count(6));
        due("two at one place", 0, fired(7, 9, 7, 9).count(6));
    }

    private static void widestOfMany() {
        test("11: the greatest distance of any two of eight");
        due("first and last", 5656, fired(0, 0, 20, 20, 10, 10, 20, 10, 10, 20, 5, 5, 8, 8, 40, 40).count(6));
        due("in between", 4000, fired(20, 20, 20, 0, 20, 20, 21, 21, 20, 40, 20, 20).count(6));
        due("the last two", 5656, fired(20, 20, 20, 21, 40, 0, 0, 40).count(6));
    }

    private static void sums() {
        test("11: the sums of rings and of spreads, of eight shots");
        CrackTarget c = fired(20, 20, 20, 20, 20, 20, 20, 20, 20, 20, 20, 20, 20, 20, 20, 20);
        due("rings", 80, c.count(3));
        due("spreads", 0, c.count(5));
        CrackTarget d = hearing(300, 1000, 1000, 1513, 1000);
        heard(d, 5000, 5300, 5000, 5300);
        due("shots", 2, d.count(1));
        due("rings, 10 at (20, 20) and 6 at (14, 14)", 16, d.count(3));
        due("spreads", 600, d.count(5));
    }

    private static void fitsShot() {
        test("12: NO_SUCH if there is no such shot");
        due("none", NO_SUCH, new CrackTarget().fits(0, 20, 20));
        CrackTarget c = fired(20, 20, 10, 10);
        for (int shot : new int[] {LOW, -1, 2, 8, HIGH}) {
            due("shot " + shot, NO_SUCH, c.fits(shot, 20, 20));
            due("nor such a point", NO_SUCH, c.fits(shot, 41, 20));
        }
        due("the first", 0, c.fits(0, 20, 20));
        due("the last", 0, c.fits(1, 10, 10));
    }

    private static void fitsPoint() {
        test("12: NO_SUCH if there is no such point");
        CrackTarget c = fired(20, 20);
        for (int far : FAR) {
            for (int near = 0; near <= 40; near += 20) {
                due("x " + far, NO_SUCH, c.fits(0, far, near));
                due("y " + far, NO_SUCH, c.fits(0, near, far));
            }
        }
    }

    private static void fitsCorners() {
        test("12: the points at the frame's corners and edges");
        CrackTarget c = fired(20, 20);
        for (int x : new int[] {0, 40}) {
            for (int y : new int[] {0, 40}) {
                due("corner " + x + ", " + y, 1663, c.fits(0, x, y));
            }
            // 2000 to the near ears, 4472 to the far ones
            due("edge x " + x, 1315 - 588, c.fits(0, x, 20));
            due("edge y " + x, 1315 - 588, c.fits(0, 20, x));
        }
    }

    private static void meanWhich() {
        test("13: BAD_VALUE if which is neither");
        CrackTarget c = fired(3, 5);
        for (int which : new int[] {LOW, -1, 2, HIGH}) {
            due("which " + which, BAD_VALUE, c.mean(which));
            due("nor shots", BAD_VALUE, new CrackTarget().mean(which));
        }
        due("0", 300, c.mean(0));
        due("1", 500, c.mean(1));
    }

    private static void meanOfNone() {
        test("13: NONE if there are no shots");
        CrackTarget c = new CrackTarget();
        due("nothing heard, x", NONE, c.mean(0));
        due("nothing heard, y", NONE, c.mean(1));
        c.hear(0, 0);
        due("a stray, x", NONE, c.mean(0));
        due("a stray, y", NONE, c.mean(1));
    }

    private static void meanOfOne() {
        test("13: the mean of one, at the ends");
        due("x 0", 0, fired(0, 40).mean(0));
        due("y 40", 4000, fired(0, 40).mean(1));
        due("x 40", 4000, fired(40, 0).mean(0));
        due("y 0", 0, fired(40, 0).mean(1));
    }

    private static void meanRoundedDown() {
        test("13: times 100, divided by how many they are, rounded down");
        due("1 / 3", 33, fired(0, 0, 0, 1, 1, 1).mean(0));
        due("2 / 3", 66, fired(0, 0, 0, 1, 1, 1).mean(1));
        due("119 / 3", 3966, fired(40, 40, 40, 40, 39, 40).mean(0));
    }

    private static void meanOfEight() {
        test("13: the mean of eight");
        CrackTarget c = fired(40, 0, 40, 0, 40, 0, 40, 0, 40, 0, 40, 0, 40, 0, 39, 1);
        due("shots", 8, c.count(1));
        due("319 / 8", 3987, c.mean(0));
        due("1 / 8", 12, c.mean(1));
    }

    private static void ifHeatRange() {
        test("14: heat -30 to 50");
        CrackTarget c = fired(20, 20);
        for (int heat : new int[] {LOW, -31, 51, HIGH}) {
            for (int what = 0; what <= 2; what++) {
                due("heat " + heat, BAD_VALUE, c.ifHeat(heat, what));
            }
        }
        for (int heat = -30; heat <= 50; heat++) {
            due("heat " + heat, 1, c.ifHeat(heat, 0));
            due("ring", 10, c.ifHeat(heat, 1));
            due("spread", 0, c.ifHeat(heat, 2));
        }
    }

    private static void ifHeatWhat() {
        test("14: what 0 to 2");
        CrackTarget c = fired(20, 20);
        for (int what : new int[] {LOW, -1, 3, HIGH}) {
            due("what " + what, BAD_VALUE, c.ifHeat(-30, what));
            due("what " + what, BAD_VALUE, c.ifHeat(50, what));
            due("both out of range", BAD_VALUE, c.ifHeat(51, what));
        }
    }

    private static void ifHeatOfNone() {
        test("14: where there are no shots");
        CrackTarget c = new CrackTarget();
        for (int what = 0; what <= 2; what++) {
            due("nothing heard, what " + what, 0, c.ifHeat(-30, what));
            due("nothing heard, what " + what, 0, c.ifHeat(50, what));
        }
        c.hear(0, 0);
        due("a stray", 0, c.ifHeat(0, 0));
    }

    private static void ifHeatIsAsSet() {
        test("14: what another HEAT would bring is what it brings when it is set");
        for (int heat = -30; heat <= 50; heat++) {
            CrackTarget c = fired(20, 25, 3, 30, 17, 22);
            c.set(SLACK, 60);
            int[] would = {c.ifHeat(heat, 0), c.ifHeat(heat, 1), c.ifHeat(heat, 2)};
            c.set(HEAT, heat);
            due("shots at " + heat, c.count(1), would[0]);
            due("rings at " + heat, c.count(3), would[1]);
            due("spreads at " + heat, c.count(5), would[2]);
        }
    }

    private static void bestHeatOfNone() {
        test("15: where there are no shots, the least");
        CrackTarget c = new CrackTarget();
        due("nothing heard", 70, c.bestHeat());
        c.hear(2, 500);
        due("a stray", 70, c.bestHeat());
    }

    private static void bestHeatLeast() {
        test("15: of several that are as good, the least");
        CrackTarget c = fired(20, 20);
        c.set(HEAT, 50);
        due("the middle is the same at each", 70, c.bestHeat());
    }

    /** What is heard at a heat, so that at any other one it fits worse. */
    private static CrackTarget heardAt(int heat) {
        CrackTarget c = new CrackTarget();
        c.set(HEAT, heat);
        c.fire(3, 30, 0);
        c.fire(7, 2, 5000);
        c.fire(33, 11, 10000);
        c.set(HEAT, 15);
        return c;
    }

    private static void bestHeatEnds() {
        test("15: -30, -20 and so on to 50");
        for (int heat = -30; heat <= 50; heat += 10) {
            CrackTarget c = heardAt(heat);
            c.set(SLACK, 0);
            due("heard at " + heat, heat + 100, c.bestHeat());
        }
    }

    private static void bestHeatMostShots() {
        test("15: the most shots come before the least sum of spreads");
        CrackTarget c = new CrackTarget();
        c.set(HEAT, 50);
        c.set(SLACK, 4);
        c.fire(20, 20, 0);
        c.fire(0, 0, 5000);
        c.forget(7);
        c.hear(2, 5000 + 1566 + 4);
        due("two shots at 50", 2, c.ifHeat(50, 0));
        due("with spreads", 1, Math.min(1, c.ifHeat(50, 2)));
        due("one shot at -30", 1, c.ifHeat(-30, 0));
        due("without", 0, c.ifHeat(-30, 2));
        due("bestHeat()", 150, c.bestHeat());
    }

    private static void bestHeatLeastSpreads() {
        test("15: of several the one with the least sum of spreads");
        for (int heat = -30; heat <= 50; heat += 10) {
            CrackTarget c = heardAt(heat);
            c.set(SLACK, 300);
            due("three shots at -30", 3, c.ifHeat(-30, 0));
            due("three shots at 50", 3, c.ifHeat(50, 0));
            due("heard at " + heat, heat + 100, c.bestHeat());
        }
    }

    private static void bestHeatTensOnly() {
        test("15: no heat between");
        for (int heat = -29; heat <= 49; heat++) {
            CrackTarget c = heardAt(heat);
            c.set(SLACK, 0);
            due("heard at " + heat + ": a ten", 0, c.bestHeat() % 10);
        }
        CrackTarget c = heardAt(45);
        c.set(SLACK, 0);
        due("none at 40", 0, c.ifHeat(40, 0));
        due("none at 50", 0, c.ifHeat(50, 0));
        due("three at 45", 3, c.ifHeat(45, 0));
        due("bestHeat()", 70, c.bestHeat());
    }

    private static void ifForgotNone() {
        test("16: NO_SUCH if there is no such pulse");
        CrackTarget c = new CrackTarget();
        due("nothing heard", NO_SUCH, c.ifForgot(0));
        c.hear(1, 1);
        for (int pulse : new int[] {LOW, -1, 1, 31, 32, HIGH}) {
            due("pulse " + pulse, NO_SUCH, c.ifForgot(pulse));
        }
        due("the only one", 0, c.ifForgot(0));
    }

    private static void ifForgotStray() {
        test("16: without a stray there are as many");
        CrackTarget c = fired(20, 20);
        c.hear(0, 0);
        c.hear(3, 99999);
        due("the first", 1, c.ifForgot(0));
        due("the last", 1, c.ifForgot(5));
    }

    private static void ifForgotOfShot() {
        test("16: without any pulse of a shot there is one less, of 32 pulses too");
        CrackTarget c = fired(20, 20, 4, 9, 30, 1, 5, 5, 0, 40, 11, 12, 39, 38, 7, 27);
        due("pulses", 32, c.count(0));
        due("shots", 8, c.count(1));
        for (int pulse = 0; pulse < 32; pulse++) {
            due("pulse " + pulse, 7, c.ifForgot(pulse));
        }
    }

    private static void ifForgotBringsMore() {
        test("16: without a pulse there can be more");
        CrackTarget c = fired(40, 40);
        int first = c.hear(0, 500);
        int second = c.hear(0, 501);
        due("the third pulse of ear 0 is not looked at", 0, c.count(1));
        due("without the first", 1, c.ifForgot(first));
        due("without the second", 1, c.ifForgot(second));
        due("without the third", 0, c.ifForgot(5));
    }

    private static void ifForgotIsAsForgotten() {
        test("16: how many there would be is how many there are once it is forgotten");
        for (int pulse = 0; pulse < 24; pulse++) {
            CrackTarget c = new CrackTarget();
            for (int i = 0; i < 6; i++) {
                c.fire(6 * i, 7 * i % 41, 1000 + 37 * i);
            }
            int would = c.ifForgot(pulse);
            c.forget(pulse);
            due("pulse " + pulse, c.count(1), would);
        }
    }
}
