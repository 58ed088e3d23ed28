/**
 * The promises of ../shared/DOC.md one by one: ordinary inputs, the edges that the document names, and
 * wrong inputs. What is due was worked out from the document by hand.
 */
public final class PromiseTest extends Check {
    public static void main(String[] args) {
        newObject();
        set();
        hear();
        fire();
        hearAll();
        hearAllStops();
        forget();
        clear();
        takes();
        pulse();
        shot();
        shotsAmongPulses();
        ties();
        count();
        fits();
        mean();
        ifHeat();
        bestHeat();
        ifForgot();
        put();
        wipe();
        fault();
        undo();
        undoLeaves();
        save();
        restore();
        end();
    }

    private static CrackTarget begin(String name) {
        test(name);
        return new CrackTarget();
    }

    private static void newObject() {
        CrackTarget c = begin("1 a new object");
        int[] due = {0, 0, 0, 0, NONE, 0, 0, 340, 115, 1900, 6, 0, 0};
        for (int what = 0; what < due.length; what++) {
            due("count(" + what + ")", due[what], c.count(what));
        }
        due("undo()", NOT_POSSIBLE, c.undo());
        due("restore(0)", NOT_POSSIBLE, c.restore(0));
        due("restore(1)", NOT_POSSIBLE, c.restore(1));
    }

    private static void set() {
        CrackTarget c = begin("2 set");
        int[][] ranges = {{-30, 50, 15, 8, 100}, {100, 4000, 1900, 9, 0}, {0, 300, 6, 10, 0}};
        for (int setting = 0; setting < 3; setting++) {
            int[] range = ranges[setting];
            due("too low", BAD_VALUE, c.set(setting, range[0] - 1));
            due("too high", BAD_VALUE, c.set(setting, range[1] + 1));
            due("extreme", BAD_VALUE, c.set(setting, Integer.MIN_VALUE));
            due("extreme", BAD_VALUE, c.set(setting, Integer.MAX_VALUE));
            due("unchanged", range[2] + range[4], c.count(range[3]));
            due("the least", range[2] + 100, c.set(setting, range[0]));
            due("is held", range[0] + range[4], c.count(range[3]));
            due("the greatest", range[0] + 100, c.set(setting, range[1]));
            due("is held", range[1] + range[4], c.count(range[3]));
            due("the same again", range[1] + 100, c.set(setting, range[1]));
        }
        due("changes", 6, c.count(12));
        due("no such setting", BAD_VALUE, c.set(-1, 0));
        due("no such setting", BAD_VALUE, c.set(3, 100));
        due("no such setting", BAD_VALUE, c.set(Integer.MAX_VALUE, 100));
        due("no such setting", BAD_VALUE, c.set(Integer.MIN_VALUE, 100));
    }

    private static void hear() {
        CrackTarget c = begin("3 hear");
        due("the first", 0, c.hear(2, 500));
        due("the same time, a lower ear", 0, c.hear(1, 500));
        due("the same time, a higher ear", 2, c.hear(3, 500));
        due("earlier", 0, c.hear(3, 499));
        due("between", 4, c.hear(0, 501));
        due("the earliest", 0, c.hear(0, 0));
        due("the latest", 6, c.hear(0, 99999));
        due("ear", NO_SUCH, c.hear(-1, 5));
        due("ear", NO_SUCH, c.hear(4, 5));
        due("ear first", NO_SUCH, c.hear(4, -1));
        due("time", BAD_VALUE, c.hear(0, -1));
        due("time", BAD_VALUE, c.hear(3, 100000));
        due("time", BAD_VALUE, c.hear(1, Integer.MAX_VALUE));
        due("time", BAD_VALUE, c.hear(1, Integer.MIN_VALUE));
        due("there already", NOT_POSSIBLE, c.hear(2, 500));
        due("errors change nothing", 7, c.count(0));
        due("errors record nothing", 6, c.count(12));
        for (int i = 0; i < 25; i++) {
            due("filling", 7 + i - 1, c.hear(1, 1000 + i));
        }
        due("33", TOO_MANY, c.hear(1, 5));
        due("there already, and full", NOT_POSSIBLE, c.hear(2, 500));
        due("out of range, and full", BAD_VALUE, c.hear(2, -500));
        due("still 32", 32, c.count(0));
    }

    private static void fire() {
        CrackTarget c = begin("4 fire");
        due("x", NO_SUCH, c.fire(-1, 0, 0));
        due("x", NO_SUCH, c.fire(41, 0, 0));
        due("y", NO_SUCH, c.fire(0, -1, 0));
        due("y", NO_SUCH, c.fire(0, 41, 0));
        due("point first", NO_SUCH, c.fire(0, 41, -1));
        due("time", BAD_VALUE, c.fire(0, 0, -1));
        due("time", BAD_VALUE, c.fire(0, 0, 90001));
        due("time", BAD_VALUE, c.fire(0, 0, Integer.MAX_VALUE));
        due("the latest, far corner", 4, c.fire(40, 40, 90000));
        due("near ear", 90000, c.pulse(0, 1));
        due("far ear", 91663, c.pulse(3, 1));
        due("the earliest", 8, c.fire(3, 4, 0));
        // 5 off ear 0: 100 * 500 / 340
        due("its time", 147, c.pulse(0, 1));
        due("its ear", 0, c.pulse(0, 0));
        due("one change a shot", 2, c.count(12));
        c.clear();
        c.hear(3, 1000 + 1176);
        due("one of them there", NOT_POSSIBLE, c.fire(0, 0, 1000));
        due("none is heard then", 1, c.count(0));
        int[] times = {20000, 21176, 21663, 21176};
        for (int ear = 0; ear < 4; ear++) {
            CrackTarget d = new CrackTarget();
            d.hear(ear, times[ear]);
            due("ear " + ear + " there", NOT_POSSIBLE, d.fire(0, 0, 20000));
            due("a little later", 5, d.fire(0, 0, 20001));
        }
        for (int i = 0; i < 7; i++) {
            due("filling", 5 + 4 * i, c.fire(10, 10, 5000 + i));
        }
        due("33 to 36", TOO_MANY, c.fire(10, 10, 6000));
        due("there already, and full", NOT_POSSIBLE, c.fire(0, 0, 1000));
        due("still 29", 29, c.count(0));
        c.forget(0);
        due("just 32", 32, c.fire(10, 10, 6000));
        due("none more", TOO_MANY, c.fire(10, 10, 7000));
    }

    private static void hearAll() {
        CrackTarget c = begin("5 hearAll");
        due("empty", BAD_TEXT, c.hearAll());
        type(c, "0:100;1:100;3:0;2:99999");
        due("all", 4, c.hearAll());
        due("pulses", 4, c.count(0));
        due("order", 3, c.pulse(0, 0));
        due("order", 0, c.pulse(1, 0));
        due("last", 99999, c.pulse(3, 1));
        due("the pad is empty", 0, c.count(11));
        due("one change", 1, c.count(12));
        type(c, "1:5;");
        due("fault", BAD_TEXT, c.hearAll());
        due("the pad stays", 4, c.count(11));
        due("nothing is heard", 4, c.count(0));
        due("nothing is recorded", 1, c.count(12));
        due("undo", 0, c.undo());
        due("all are gone", 0, c.count(0));
        due("the pad is not undone", 4, c.count(11));
    }

    private static void hearAllStops() {
        CrackTarget c = begin("5 hearAll, up to an error");
        type(c, "0:1;1:2;0:1;2:3");
        due("up to the one that is there", 2, c.hearAll());
        due("the rest is not heard", 2, c.count(0));
        due("the pad is empty", 0, c.count(11));
        type(c, "0:1;2:3");
        due("none", 0, c.hearAll());
        due("nothing different", 2, c.count(0));
        due("a change all the same", 2, c.count(12));
        due("emptied", 0, c.count(11));
        for (int i = 0; i < 29; i++) {
            c.hear(3, 500 + i);
        }
        type(c, "0:9;1:9;2:9");
        due("up to 32", 1, c.hearAll());
        due("32", 32, c.count(0));
        type(c, "0:0;0:1;0:2;0:3;0:4;0:5;0:6;0:7;0:8;0:9;1:0;1:1;1:2;1:3;1:4;1:5;1:6;1:7;1:8;1:9");
        c.clear();
        due("as many as a pad holds", 20, c.hearAll());
        due("the last one", 9, c.pulse(19, 1));
    }

    private static void forget() {
        CrackTarget c = begin("6 forget");
        due("none", NO_SUCH, c.forget(0));
        c.hear(0, 10);
        c.hear(1, 20);
        c.hear(2, 30);
        due("below", NO_SUCH, c.forget(-1));
        due("above", NO_SUCH, c.forget(3));
        due("extreme", NO_SUCH, c.forget(Integer.MAX_VALUE));
        due("extreme", NO_SUCH, c.forget(Integer.MIN_VALUE));
        due("errors record nothing", 3, c.count(12));
        due("the middle one", 20, c.forget(1));
        due("left", 2, c.count(0));
        due("moved up", 30, c.pulse(1, 1));
        due("a change", 4, c.count(12));
        due("the last one", 30, c.forget(1));
        due("the first one", 10, c.forget(0));
        due("left", 0, c.count(0));
    }

    private static void clear() {
        CrackTarget c = begin("7 clear");
        due("nothing there", 0, c.clear());
        due("a change all the same", 1, c.count(12));
        c.fire(20, 20, 0);
        c.hear(0, 0);
        c.set(2, 9);
        due("five", 5, c.clear());
        due("none left", 0, c.count(0));
        due("no shots left", 0, c.count(1));
        due("settings stay", 9, c.count(10));
        c.undo();
        due("back", 5, c.count(0));
    }

    private static void takes() {
        CrackTarget c = begin("8 takes");
        // 3 and 4 give a distance of 500; 30 and 40 one of 5000
        due("ear 0", 147, c.takes(3, 4, 0));
        due("ear 1", 147, c.takes(37, 4, 1));
        due("ear 2", 147, c.takes(37, 36, 2));
        due("ear 3", 147, c.takes(3, 36, 3));
        due("far", 1470, c.takes(30, 40, 0));
        due("rounded down twice", 41, c.takes(1, 1, 0));
        due("at an ear", 0, c.takes(40, 40, 2));
        c.set(0, -30);
        due("cold", 159, c.takes(3, 4, 0));
        due("cold, across", 1807, c.takes(0, 0, 2));
        c.set(0, 50);
        due("hot", 138, c.takes(3, 4, 0));
        c.set(0, -1);
        due("below 0, rounded down to 330", 151, c.takes(3, 4, 0));
        due("ifHeat leaves it", 0, c.ifHeat(50, 0));
        due("the same", 151, c.takes(3, 4, 0));
        int[][] bad = {{-1, 0, 0}, {41, 0, 0}, {0, -1, 0}, {0, 41, 0}, {0, 0, -1}, {0, 0, 4},
            {Integer.MAX_VALUE, 0, 0}, {0, Integer.MIN_VALUE, 0}, {0, 0, Integer.MAX_VALUE}};
        for (int[] b : bad) {
            due("wrong", NO_SUCH, c.takes(b[0], b[1], b[2]));
        }
    }

    private static void pulse() {
        CrackTarget c = begin("9 pulse");
        due("none", NO_SUCH, c.pulse(0, 0));
        c.hear(2, 77);
        c.fire(40, 0, 100);
        due("a stray's ear", 2, c.pulse(0, 0));
        due("a stray's time", 77, c.pulse(0, 1));
        due("a stray", NONE, c.pulse(0, 2));
        due("ear", 1, c.pulse(1, 0));
        due("time", 100, c.pulse(1, 1));
        for (int i = 1; i < 5; i++) {
            due("shot", 0, c.pulse(i, 2));
        }
        due("the last", 1763, c.pulse(4, 1));
        due("below", NO_SUCH, c.pulse(-1, 0));
        due("above", NO_SUCH, c.pulse(5, 0));
        due("what", BAD_VALUE, c.pulse(0, -1));
        due("what", BAD_VALUE, c.pulse(0, 3));
        due("pulse first", NO_SUCH, c.pulse(5, 3));
        due("extreme", NO_SUCH, c.pulse(Integer.MIN_VALUE, 0));
        due("nothing is recorded", 2, c.count(12));
    }

    private static void shot() {
        CrackTarget c = begin("10 shot");
        due("none", NO_SUCH, c.shot(0, 0));
        c.hear(0, 1);
        c.fire(23, 16, 2000);
        int[] due = {23, 16, 0, 12000, 8, 2, 1, 3, 4};
        for (int what = 0; what < due.length; what++) {
            due("what " + what, due[what], c.shot(0, what));
        }
        due("what", BAD_VALUE, c.shot(0, -1));
        due("what", BAD_VALUE, c.shot(0, 9));
        due("below", NO_SUCH, c.shot(-1, 0));
        due("above", NO_SUCH, c.shot(1, 0));
        due("shot first", NO_SUCH, c.shot(1, 9));
        due("extreme", NO_SUCH, c.shot(Integer.MAX_VALUE, 0));
        c.clear();
        for (int ear = 0; ear < 4; ear++) {
            c.hear(ear, 0);
        }
        due("a moment below 0, 831 before", 9169, c.shot(0, 3));
        c.clear();
        c.fire(0, 0, 0);
        due("a ring is at least 0", 0, c.shot(0, 4));
        c.clear();
        c.fire(22, 20, 0);
        due("a ring ends at 200", 9, c.shot(0, 4));
        c.clear();
        c.fire(21, 21, 0);
        due("within the best ring", 10, c.shot(0, 4));
    }

    /** How shots are found, as the terms tell it. */
    private static void shotsAmongPulses() {
        CrackTarget c = begin("10 shots among pulses");
        c.set(1, 100);
        c.set(2, 300);
        heard(c, 0, 100, 50, 100);
        due("at WINDOW just", 1, c.count(1));
        c.forget(3);
        c.hear(3, 101);
        due("above WINDOW", 0, c.count(1));
        due("all strays", 4, c.count(2));
        c.set(1, 1900);
        due("a greater WINDOW", 1, c.count(1));

        CrackTarget d = new CrackTarget();
        heard(d, 0, 0, 0, 7);
        d.set(2, 300);
        int spread = d.shot(0, 2);
        d.set(2, spread);
        due("spread at SLACK just", 1, d.count(1));
        d.set(2, spread - 1);
        due("spread above SLACK", 0, d.count(1));

        CrackTarget e = new CrackTarget();
        heard(e, 1000, 1000, 1000, 1000);
        e.hear(1, 1001);
        e.hear(2, 1001);
        e.hear(3, 1001);
        due("the exact row", 0, e.shot(0, 2));
        due("its pulse of ear 1", 1, e.shot(0, 6));
        due("the others are strays", 3, e.count(2));
        due("a stray among them", NONE, e.pulse(6, 2));

        CrackTarget f = new CrackTarget();
        // only the first two of an ear are looked at, so that the fitting third one of ear 2 is not
        f.set(2, 0);
        f.hear(0, 100);
        f.hear(1, 100);
        f.hear(3, 100);
        f.hear(2, 3000);
        f.set(1, 4000);
        due("one that fits nowhere", 0, f.count(1));
        f.hear(2, 2990);
        f.hear(2, 100);
        due("the first of three", 1, f.count(1));
        f.forget(f.hear(2, 101) - 1);
        due("the others do not fit", 0, f.count(1));

        CrackTarget g = new CrackTarget();
        g.fire(20, 20, 1000);
        g.fire(20, 20, 1001);
        due("two shortly one after the other", 2, g.count(1));
        due("the first has the earlier", 11000, g.shot(0, 3));
        due("the second has the later", 11001, g.shot(1, 3));
        due("pulse of the second", 4, g.shot(1, 5));
    }

    /** Of several places, rows and pulses that are as good as another, the one that the document names. */
    private static void ties() {
        CrackTarget c = begin("10 shot, ties");
        c.set(2, 300);
        // (20, 18): 791 and 874, (20, 19): 811 and 852; both leave 21
        heard(c, 1000, 1000, 1062, 1062);
        due("spread", 21, c.shot(0, 2));
        due("the other place is as good", 21, c.fits(0, 20, 19));
        due("the least y", 18, c.shot(0, 1));
        due("moment", 11000 - 812, c.shot(0, 3));
        c.clear();
        heard(c, 1000, 1062, 1062, 1000);
        due("spread", 21, c.shot(0, 2));
        due("the other place is as good", 21, c.fits(0, 19, 20));
        due("the least x", 18, c.shot(0, 0));
        c.clear();
        // mirrored, (10, 15) and (15, 10) are one shot with the pulses of ears 1 and 3 changed
        c.set(2, 6);
        c.fire(10, 15, 1000);
        c.hear(1, 1000 + c.takes(10, 15, 3));
        c.hear(3, 1000 + c.takes(10, 15, 1));
        due("one shot", 1, c.count(1));
        due("its spread", 0, c.shot(0, 2));
        due("the two others are strays", 2, c.count(2));
        due("the earlier pulse of the lowest ear", 1, c.shot(0, 6));
        due("with the later one of the last ear", 4, c.shot(0, 8));
        due("x", 15, c.shot(0, 0));
        due("y", 10, c.shot(0, 1));
    }

    private static void count() {
        CrackTarget c = begin("11 count");
        c.fire(20, 25, 0);
        c.fire(20, 15, 3000);
        c.fire(5, 5, 6000);
        c.hear(3, 20000);
        type(c, "0:12");
        int[] due = {13, 3, 1, 16, 0, 0, 2500, 340, 115, 1900, 6, 4, 4};
        for (int what = 0; what < due.length; what++) {
            due("what " + what, due[what], c.count(what));
        }
        due("below", BAD_VALUE, c.count(-1));
        due("above", BAD_VALUE, c.count(13));
        due("extreme", BAD_VALUE, c.count(Integer.MAX_VALUE));
        due("extreme", BAD_VALUE, c.count(Integer.MIN_VALUE));
        c.fire(20, 20, 9000);
        due("a later shot with a greater ring", 3, c.count(4));
        c.clear();
        due("no shots", NONE, c.count(4));
        c.fire(7, 7, 0);
        c.fire(7, 7, 5000);
        due("two shots at one place", 0, c.count(6));
        c.clear();
        c.fire(0, 0, 0);
        due("the first one, though its ring is 0", 0, c.count(4));
        due("one shot has no distance", 0, c.count(6));
        c.set(0, -4);
        due("speed, rounded down", 328, c.count(7));
        due("heat", 96, c.count(8));
    }

    private static void fits() {
        CrackTarget c = begin("12 fits");
        due("no shot", NO_SUCH, c.fits(0, 0, 0));
        c.hear(0, 0);
        c.fire(20, 20, 100);
        due("at its place", 0, c.fits(0, 20, 20));
        due("at an ear", 1663, c.fits(0, 40, 0));
        // 36055, 36055 and the others 22360 and 22360: the times are 1060, 657
        due("beside", 403, c.fits(0, 20, 10));
        due("x", NO_SUCH, c.fits(0, 41, 0));
        due("x", NO_SUCH, c.fits(0, -1, 0));
        due("y", NO_SUCH, c.fits(0, 0, 41));
        due("y", NO_SUCH, c.fits(0, 0, -1));
        due("shot", NO_SUCH, c.fits(1, 0, 0));
        due("shot", NO_SUCH, c.fits(-1, 0, 0));
        due("extreme", NO_SUCH, c.fits(Integer.MAX_VALUE, 0, 0));
        due("what-if leaves it", 1, c.ifHeat(15, 0));
        due("the same", 403, c.fits(0, 20, 10));
    }

    private static void mean() {
        CrackTarget c = begin("13 mean");
        due("no shots", NONE, c.mean(0));
        due("no shots", NONE, c.mean(1));
        due("which first", BAD_VALUE, c.mean(2));
        due("which", BAD_VALUE, c.mean(-1));
        c.fire(1, 2, 0);
        due("x of one", 100, c.mean(0));
        due("y of one", 200, c.mean(1));
        c.fire(1, 3, 3000);
        c.fire(2, 6, 6000);
        due("4 / 3, rounded down", 133, c.mean(0));
        due("11 / 3, rounded down", 366, c.mean(1));
        due("which", BAD_VALUE, c.mean(2));
    }

    private static void ifHeat() {
        CrackTarget c = begin("14 ifHeat");
        c.set(0, 40);
        c.fire(10, 25, 0);
        c.fire(20, 20, 5000);
        due("shots at this heat", 2, c.ifHeat(40, 0));
        due("rings", 15, c.ifHeat(40, 1));
        due("spreads", 0, c.ifHeat(40, 2));
        due("the middle is heard at each heat", 1, c.ifHeat(-30, 0));
        due("its ring", 10, c.ifHeat(-30, 1));
        due("heat", BAD_VALUE, c.ifHeat(-31, 0));
        due("heat", BAD_VALUE, c.ifHeat(51, 0));
        due("what", BAD_VALUE, c.ifHeat(0, -1));
        due("what", BAD_VALUE, c.ifHeat(0, 3));
        due("the highest", 1, c.ifHeat(50, 0) > 0 ? 1 : 0);
        due("extreme", BAD_VALUE, c.ifHeat(Integer.MIN_VALUE, 0));
        due("nothing changes", 140, c.count(8));
        due("shots stay", 2, c.count(1));
        due("nothing is recorded", 3, c.count(12));
    }

    private static void bestHeat() {
        CrackTarget c = begin("15 bestHeat");
        due("nothing heard: the least", 70, c.bestHeat());
        c.fire(20, 20, 0);
        due("as good at each: the least", 70, c.bestHeat());
        for (int heat = -30; heat <= 50; heat += 10) {
            c.clear();
            c.set(0, heat);
            c.set(2, 0);
            c.fire(3, 30, 0);
            c.fire(7, 2, 5000);
            c.fire(33, 11, 10000);
            c.set(0, 15);
            due("the heat of the shots", heat + 100, c.bestHeat());
            c.set(2, 300);
            due("the least sum of spreads", heat + 100, c.bestHeat());
        }
        due("nothing changes", 115, c.count(8));
    }

    private static void ifForgot() {
        CrackTarget c = begin("16 ifForgot");
        due("none", NO_SUCH, c.ifForgot(0));
        c.fire(20, 20, 0);
        c.hear(1, 50000);
        due("of a shot", 0, c.ifForgot(2));
        due("a stray", 1, c.ifForgot(4));
        due("below", NO_SUCH, c.ifForgot(-1));
        due("above", NO_SUCH, c.ifForgot(5));
        due("extreme", NO_SUCH, c.ifForgot(Integer.MAX_VALUE));
        due("nothing changes", 5, c.count(0));
        due("shots stay", 1, c.count(1));
        due("owners stay", 0, c.pulse(2, 2));
        due("nothing is recorded", 2, c.count(12));
        c.hear(0, 832);
        due("another takes its place", 1, c.ifForgot(0));
        CrackTarget d = new CrackTarget();
        // two pulses that fit nothing hide the third one of ear 2
        d.set(1, 4000);
        heard(d, 5000, 5000, 5000, 5000);
        d.forget(2);
        d.hear(2, 6000);
        due("hidden", 0, d.count(1));
        d.hear(0, 4000);
        due("hidden still", 0, d.count(1));
        d.hear(1, 4000);
        d.hear(3, 4000);
        d.hear(2, 4001);
        due("one shot", 1, d.count(1));
        due("less", 0, d.ifForgot(3));
    }

    private static void put() {
        CrackTarget c = begin("17 put");
        due("nothing", BAD_VALUE, c.put(0));
        due("one", 1, c.put('0'));
        due("32", BAD_VALUE, c.put(32));
        due("127", BAD_VALUE, c.put(127));
        due("255", BAD_VALUE, c.put(255));
        due("33", 2, c.put(33));
        due("126", 3, c.put(126));
        due("a gap", BAD_VALUE, c.put((long) '0' << 16 | '1'));
        due("none at the end", BAD_VALUE, c.put((long) '0' << 8));
        due("only the top", BAD_VALUE, c.put((long) '0' << 56));
        due("all bits", BAD_VALUE, c.put(-1));
        due("the lowest", BAD_VALUE, c.put(Long.MIN_VALUE));
        due("a sign above 126 at the front", BAD_VALUE, c.put((long) 200 << 56 | letters("2345678")));
        due("a bad sign in the middle", BAD_VALUE, c.put(letters("12 45")));
        due("nothing was put", 3, c.count(11));
        c.wipe();
        due("eight", 8, c.put(letters("3:99999;")));
        due("their order", 8, c.fault());
        c.put(letters("1:2"));
        due("heard", 2, c.hearAll());
        due("the first character first", 3, c.pulse(1, 0));
        for (int i = 1; i <= 10; i++) {
            due("filling", 8 * i, c.put(letters("11111111")));
        }
        due("81", TOO_MANY, c.put('1'));
        due("bad, and full", BAD_VALUE, c.put(32));
        due("still 80", 80, c.wipe());
        type(c, "0123456789012345678901234567890123456789012345678901234567890123456789012");
        due("73 and eight", TOO_MANY, c.put(letters("12345678")));
        due("none of them", 73, c.count(11));
        due("73 and seven", 80, c.put(letters("1234567")));
        due("no change", 1, c.count(12));
    }

    private static void wipe() {
        CrackTarget c = begin("18 wipe");
        due("empty", 0, c.wipe());
        type(c, "0:1;2:3");
        due("seven", 7, c.wipe());
        due("empty", 0, c.count(11));
        due("again", 0, c.wipe());
        due("nothing stays", BAD_TEXT, c.hearAll());
        due("no change", 0, c.count(12));
    }

    private static void fault() {
        test("19 fault");
        Object[][] texts = {{"", 0}, {"0", 1}, {"0:", 2}, {"0:0", NONE}, {"3:99999", NONE}, {"4:1", 0}, {"/:1", 0},
            {":1", 0}, {"0;", 1}, {"00", 1}, {"0::", 2}, {"0:;", 2}, {"0:00", 3}, {"0:01", 3}, {"0:10", NONE},
            {"0:100000", 7}, {"0:99999;", 8}, {"0:999990", 7}, {"0:12345678", 7}, {"0:1;;", 4}, {"0:1;4", 4}, {"0:1;1:2", NONE},
            {"0:1:", 3}, {"0:0;1:", 6}, {"0:1a", 3}, {"0:-1", 2}, {"0:1/", 3}, {"1:0;2:0;3:0", NONE}, {"0:0;1:01", 7}};
        for (Object[] text : texts) {
            CrackTarget c = new CrackTarget();
            type(c, (String) text[0]);
            due("fault() of " + text[0], (Integer) text[1], c.fault());
            due("twice", (Integer) text[1], c.fault());
            due("the pad stays", ((String) text[0]).length(), c.count(11));
            due("hearAll then", (Integer) text[1] == NONE ? 1 : BAD_TEXT, Math.min(1, c.hearAll()));
        }
    }

    private static void undo() {
        CrackTarget c = begin("20 undo");
        due("none", NOT_POSSIBLE, c.undo());
        for (int i = 1; i <= 8; i++) {
            c.hear(0, i);
            due("recorded", Math.min(i, 6), c.count(12));
        }
        for (int left = 5; left >= 0; left--) {
            due("left", left, c.undo());
            due("pulses", left + 2, c.count(0));
        }
        due("the oldest were dropped", NOT_POSSIBLE, c.undo());
        due("nothing changes", 2, c.count(0));
        c.set(2, 6);
        due("also if nothing is different", 1, c.count(12));
        c.set(0, 20);
        c.set(1, 500);
        c.fire(1, 1, 50);
        c.forget(0);
        c.clear();
        due("of clear", 5, c.undo());
        due("pulses", 5, c.count(0));
        due("of forget", 4, c.undo());
        due("pulses", 6, c.count(0));
        due("of fire", 3, c.undo());
        due("pulses", 2, c.count(0));
        due("of set", 2, c.undo());
        due("window", 1900, c.count(9));
        due("of set", 1, c.undo());
        due("heat", 115, c.count(8));
        due("of set", 0, c.undo());
        c.fire(20, 20, 500);
        due("a shot", 1, c.count(1));
        c.undo();
        due("no shot after undo", 0, c.count(1));
    }

    /** What undo does not undo, and what is no change. */
    private static void undoLeaves() {
        CrackTarget c = begin("20 undo leaves");
        c.hear(0, 1);
        type(c, "0:7");
        c.save(0);
        c.fault();
        c.wipe();
        type(c, "1:5");
        c.count(1);
        c.bestHeat();
        due("one change", 1, c.count(12));
        due("undo", 0, c.undo());
        due("the pad stays", 3, c.count(11));
        due("the slot stays", 1, c.restore(0));
        due("restore is a change", 1, c.count(12));
        c.undo();
        due("of restore", 0, c.count(0));
        due("errors record nothing", BAD_VALUE, c.set(0, 99));
        due("errors record nothing", NO_SUCH, c.forget(9));
        due("errors record nothing", NOT_POSSIBLE, c.restore(1));
        due("none", 0, c.count(12));
    }

    private static void save() {
        CrackTarget c = begin("21 save");
        due("slot", BAD_VALUE, c.save(-1));
        due("slot", BAD_VALUE, c.save(2));
        due("extreme", BAD_VALUE, c.save(Integer.MAX_VALUE));
        due("nothing was saved", NOT_POSSIBLE, c.restore(0));
        due("empty", 0, c.save(1));
        due("the other slot is free", NOT_POSSIBLE, c.restore(0));
        c.hear(0, 1);
        c.hear(0, 2);
        due("two", 2, c.save(0));
        c.hear(0, 3);
        due("overwrites", 3, c.save(0));
        due("no change", 3, c.count(12));
        c.clear();
        due("what was saved last", 3, c.restore(0));
        due("the other slot", 0, c.restore(1));
    }

    private static void restore() {
        CrackTarget c = begin("22 restore");
        due("slot", BAD_VALUE, c.restore(-1));
        due("slot", BAD_VALUE, c.restore(2));
        due("nothing saved", NOT_POSSIBLE, c.restore(0));
        c.set(0, -7);
        c.set(1, 1777);
        c.set(2, 77);
        c.fire(9, 9, 99);
        c.save(1);
        c.clear();
        c.set(0, 1);
        c.set(1, 100);
        c.set(2, 1);
        type(c, "0:5");
        due("four", 4, c.restore(1));
        due("heat", 93, c.count(8));
        due("window", 1777, c.count(9));
        due("slack", 77, c.count(10));
        due("pulses", 99 + c.takes(9, 9, 0), c.pulse(0, 1));
        due("its shot", 9, c.shot(0, 0));
        due("the pad stays", 3, c.count(11));
        c.clear();
        due("the slot keeps it", 4, c.restore(1));
        due("changes are not in the slot", 6, c.count(12));
        due("undo", 5, c.undo());
        due("of restore", 0, c.count(0));
    }
}
