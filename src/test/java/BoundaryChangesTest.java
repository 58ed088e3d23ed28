/** The boundary cases of the promises 1 to 7 of ../shared/DOC.md: each has a test of its own. */
public final class BoundaryChangesTest extends Check {
    public static void main(String[] args) {
        newHasHeardNothing();
        setOfTheSame();
        setNoSuchSetting();
        setAnswersAtLeast70();
        hearNumber();
        hearEar();
        hearTime();
        hearErrorsInOrder();
        hearTheLast();
        firePoint();
        fireTime();
        fireOneThere();
        fireNoneOfTheFour();
        fireJust32();
        fireErrorsInOrder();
        fireAtEachHeat();
        hearAllEmptyPad();
        hearAllFault();
        hearAllOne();
        hearAllInOrder();
        hearAllTwice();
        hearAllFirstRefused();
        hearAllUpTo32();
        hearAllFull();
        hearAllFullAndThere();
        hearAllWholePad();
        hearAllOneChange();
        hearAllNoneIsAChange();
        forgetNone();
        forgetEach();
        forgetTimes();
        forgetOfFull();
        clearEmpty();
        clearFull();
        clearKeepsTheRest();
        end();
    }

    private static void newHasHeardNothing() {
        test("1: a new object has heard nothing");
        CrackTarget c = new CrackTarget();
        int[] due = {0, 0, 0, 0, NONE, 0, 0, 340, 115, 1900, 6, 0, 0};
        for (int what = 0; what < due.length; what++) {
            due("count(" + what + ")", due[what], c.count(what));
        }
        due("pulse(0, 0)", NO_SUCH, c.pulse(0, 0));
        due("shot(0, 0)", NO_SUCH, c.shot(0, 0));
        due("fault()", 0, c.fault());
        due("undo()", NOT_POSSIBLE, c.undo());
        due("restore(0)", NOT_POSSIBLE, c.restore(0));
        due("restore(1)", NOT_POSSIBLE, c.restore(1));
        CrackTarget other = new CrackTarget();
        c.fire(20, 20, 0);
        c.save(0);
        type(c, "0:1");
        due("another object hears nothing of it", 0, other.count(0));
        due("nor do its slots", NOT_POSSIBLE, other.restore(0));
        due("nor does its pad", 0, other.count(11));
    }

    private static void setOfTheSame() {
        test("2: set to the value that there is");
        CrackTarget c = new CrackTarget();
        due("HEAT", 115, c.set(HEAT, 15));
        due("WINDOW", 2000, c.set(WINDOW, 1900));
        due("SLACK", 106, c.set(SLACK, 6));
        due("each is a change", 3, c.count(12));
    }

    private static void setNoSuchSetting() {
        test("2: BAD_VALUE if there is no such setting");
        CrackTarget c = new CrackTarget();
        for (int setting : new int[] {LOW, -2, -1, 3, 4, HIGH}) {
            due("set(" + setting + ", 100)", BAD_VALUE, c.set(setting, 100));
            due("set(" + setting + ", 5)", BAD_VALUE, c.set(setting, 5));
        }
        due("no change", 0, c.count(12));
    }

    private static void setAnswersAtLeast70() {
        test("2: the previous value, and 100");
        CrackTarget c = new CrackTarget();
        c.set(HEAT, -30);
        due("-30", 70, c.set(HEAT, 50));
        due("50", 150, c.set(HEAT, 0));
        due("0", 100, c.set(HEAT, -1));
        due("-1", 99, c.set(HEAT, 1));
        c.set(WINDOW, 4000);
        due("4000", 4100, c.set(WINDOW, 100));
        due("100", 200, c.set(WINDOW, 100));
        c.set(SLACK, 300);
        due("300", 400, c.set(SLACK, 0));
        due("0", 100, c.set(SLACK, 0));
    }

    private static void hearNumber() {
        test("3: the number of the pulse, first, in between and last");
        CrackTarget c = new CrackTarget();
        due("alone", 0, c.hear(1, 50));
        due("behind, of a higher ear", 1, c.hear(2, 50));
        due("before, of a lower ear", 0, c.hear(0, 50));
        due("behind all, of the highest ear", 3, c.hear(3, 50));
        due("behind all, later", 4, c.hear(0, 51));
        due("before all, earlier", 0, c.hear(3, 49));
    }

    private static void hearEar() {
        test("3: NO_SUCH if there is no such ear");
        CrackTarget c = new CrackTarget();
        for (int ear : new int[] {LOW, -1, 4, HIGH}) {
            due("ear " + ear, NO_SUCH, c.hear(ear, 0));
        }
        for (int ear = 0; ear < 4; ear++) {
            due("ear " + ear, ear, c.hear(ear, 0));
            due("is held", ear, c.pulse(ear, 0));
        }
    }

    private static void hearTime() {
        test("3: BAD_VALUE if time is out of range, 0 to 99999");
        CrackTarget c = new CrackTarget();
        for (int time : new int[] {LOW, LOW / 4, -1, 100000, HIGH / 4 + 1, HIGH}) {
            due("time " + time, BAD_VALUE, c.hear(0, time));
        }
        due("0", 0, c.hear(3, 0));
        due("99999", 1, c.hear(0, 99999));
    }

    private static void hearErrorsInOrder() {
        test("3: NO_SUCH, BAD_VALUE, NOT_POSSIBLE, TOO_MANY, in this order");
        CrackTarget c = new CrackTarget();
        due("no ear, no time", NO_SUCH, c.hear(4, -1));
        due("no ear, no time", NO_SUCH, c.hear(-1, 100000));
        for (int i = 0; i < 32; i++) {
            c.hear(1, i);
        }
        due("no ear, no time, full", NO_SUCH, c.hear(4, -1));
        due("no ear, full", NO_SUCH, c.hear(4, 5));
        due("no time, full", BAD_VALUE, c.hear(1, -1));
        due("no time, full", BAD_VALUE, c.hear(1, 100000));
        for (int i = 0; i < 32; i++) {
            due("there already, full", NOT_POSSIBLE, c.hear(1, i));
            due("full", TOO_MANY, c.hear(0, i));
        }
    }

    private static void hearTheLast() {
        test("3: the 32nd is heard, the 33rd is not");
        CrackTarget c = new CrackTarget();
        for (int i = 31; i >= 1; i--) {
            due("always the first", 0, c.hear(2, i));
        }
        due("the 32nd", 0, c.hear(2, 0));
        due("the 33rd", TOO_MANY, c.hear(2, 32));
        due("the 33rd", TOO_MANY, c.hear(3, 0));
        due("the last one is as it was", 31, c.pulse(31, 1));
    }

    private static void firePoint() {
        test("4: NO_SUCH if there is no such point");
        for (int far : new int[] {LOW, -1, 41, HIGH}) {
            for (int near : new int[] {0, 20, 40}) {
                due("x " + far, NO_SUCH, new CrackTarget().fire(far, near, 0));
                due("y " + far, NO_SUCH, new CrackTarget().fire(near, far, 0));
            }
            due("both " + far, NO_SUCH, new CrackTarget().fire(far, far, 0));
        }
        for (int x : new int[] {0, 40}) {
            for (int y : new int[] {0, 40}) {
                due("corner " + x + ", " + y, 4, new CrackTarget().fire(x, y, 0));
            }
        }
    }

    private static void fireTime() {
        test("4: BAD_VALUE if time is out of range, 0 to 90000");
        CrackTarget c = new CrackTarget();
        for (int time : new int[] {LOW, -1, 90001, 99999, HIGH}) {
            due("time " + time, BAD_VALUE, c.fire(0, 0, time));
        }
        due("0", 4, c.fire(0, 0, 0));
        due("its first pulse", 0, c.pulse(0, 1));
        due("90000", 8, c.fire(0, 0, 90000));
        due("its last pulse", 91663, c.pulse(7, 1));
        c.set(HEAT, -30);
        due("90000 in the cold", 12, c.fire(40, 40, 90000));
        due("its last pulse", 91807, c.pulse(11, 1));
    }

    private static void fireOneThere() {
        test("4: NOT_POSSIBLE if one of these pulses is there already, whichever");
        CrackTarget model = new CrackTarget();
        model.fire(13, 29, 5000);
        for (int i = 0; i < 4; i++) {
            CrackTarget c = new CrackTarget();
            c.hear(model.pulse(i, 0), model.pulse(i, 1));
            due("pulse " + i, NOT_POSSIBLE, c.fire(13, 29, 5000));
            due("none of the others is heard", 1, c.count(0));
            due("no change", 1, c.count(12));
        }
    }

    private static void fireNoneOfTheFour() {
        test("4: pulses beside these, or of other ears at their times, are not these");
        CrackTarget model = new CrackTarget();
        model.fire(13, 29, 5000);
        for (int i = 0; i < 4; i++) {
            for (int ear = 0; ear < 4; ear++) {
                for (int more = -1; more <= 1; more++) {
                    CrackTarget c = new CrackTarget();
                    c.hear(ear, model.pulse(i, 1) + more);
                    boolean same = ear == model.pulse(i, 0) && more == 0;
                    due("ear " + ear + ", " + more + " from pulse " + i, same ? NOT_POSSIBLE : 5, c.fire(13, 29, 5000));
                }
            }
        }
    }

    private static CrackTarget withPulses(int pulses) {
        CrackTarget c = new CrackTarget();
        for (int i = 0; i < pulses; i++) {
            c.hear(0, i);
        }
        return c;
    }

    private static void fireJust32() {
        test("4: TOO_MANY if there would be more than 32");
        due("28 and 4", 32, withPulses(28).fire(20, 20, 500));
        for (int pulses = 29; pulses <= 32; pulses++) {
            CrackTarget c = withPulses(pulses);
            due(pulses + " and 4", TOO_MANY, c.fire(20, 20, 500));
            due("none is heard", pulses, c.count(0));
        }
    }

    private static void fireErrorsInOrder() {
        test("4: NO_SUCH, BAD_VALUE, NOT_POSSIBLE, TOO_MANY, in this order");
        due("no point, no time", NO_SUCH, new CrackTarget().fire(41, 0, -1));
        due("no point, no time", NO_SUCH, new CrackTarget().fire(0, -1, 90001));
        for (int pulses = 29; pulses <= 32; pulses++) {
            CrackTarget c = withPulses(pulses);
            due("no point, no time, full", NO_SUCH, c.fire(0, 41, 90001));
            due("no point, full", NO_SUCH, c.fire(-1, 0, 5));
            due("no time, full", BAD_VALUE, c.fire(0, 0, -1));
            due("no time, full", BAD_VALUE, c.fire(0, 0, 90001));
            due("one there, full", NOT_POSSIBLE, c.fire(0, 0, 5));
            due("full", TOO_MANY, c.fire(0, 0, 50));
        }
    }

    private static void fireAtEachHeat() {
        test("4: each ear hears a pulse at this time and what the crack takes, at the least and the greatest HEAT");
        for (int heat : new int[] {-30, 50}) {
            CrackTarget c = new CrackTarget();
            c.set(HEAT, heat);
            c.fire(40, 0, 100);
            due("ear 1", 100, c.pulse(0, 1));
            due("ear 0", 100 + c.takes(40, 0, 0), c.pulse(1, 1));
            due("ear 2", 100 + c.takes(40, 0, 2), c.pulse(2, 1));
            due("ear 3", heat == -30 ? 1907 : 1666, c.pulse(3, 1));
        }
    }

    private static void hearAllEmptyPad() {
        test("5: BAD_TEXT if the pad is empty");
        CrackTarget c = new CrackTarget();
        due("hearAll()", BAD_TEXT, c.hearAll());
        due("no change", 0, c.count(12));
        type(c, "0:5");
        due("hearAll()", 1, c.hearAll());
        due("once more, the pad being empty", BAD_TEXT, c.hearAll());
        due("one change", 1, c.count(12));
    }

    private static void hearAllFault() {
        test("5: BAD_TEXT if the pad has a fault; then it stays, and none is heard");
        for (String text : new String[] {"0", "0:", "0:1;", "0:1;1", "0:1;4:1", "0:1;1:100000", "0:1;1:01", "x", "0:1;1:2x"}) {
            CrackTarget c = new CrackTarget();
            type(c, text);
            int fault = c.fault();
            due(text, BAD_TEXT, c.hearAll());
            due("its length", text.length(), c.count(11));
            due("its fault", fault, c.fault());
            due("pulses", 0, c.count(0));
            due("changes", 0, c.count(12));
        }
    }

    private static void hearAllOne() {
        test("5: one pulse, the least and the greatest");
        CrackTarget c = new CrackTarget();
        type(c, "0:0");
        due("0:0", 1, c.hearAll());
        type(c, "3:99999");
        due("3:99999", 1, c.hearAll());
        due("both", "115 1900 6  0:0 3:99999", kept(c));
    }

    private static void hearAllInOrder() {
        test("5: one after the other");
        CrackTarget c = new CrackTarget();
        type(c, "3:9;2:99999;0:0;0:9");
        due("hearAll()", 4, c.hearAll());
        due("all", "115 1900 6  0:0 0:9 3:9 2:99999", kept(c));
    }

    private static void hearAllTwice() {
        test("5: up to the first one that returns an error: one that the pad has twice");
        CrackTarget c = new CrackTarget();
        type(c, "1:7;2:7;1:7;3:7");
        due("hearAll()", 2, c.hearAll());
        due("what is heard stays", "115 1900 6  1:7 2:7", kept(c));
        due("the pad is empty", 0, c.count(11));
    }

    private static void hearAllFirstRefused() {
        test("5: up to the first one that returns an error: the first of all");
        CrackTarget c = new CrackTarget();
        c.hear(1, 7);
        type(c, "1:7;2:7");
        due("hearAll()", 0, c.hearAll());
        due("none is heard", "115 1900 6  1:7", kept(c));
        due("the pad is empty", 0, c.count(11));
    }

    private static void hearAllUpTo32() {
        test("5: up to the first one that returns an error: the 33rd");
        CrackTarget c = withPulses(30);
        type(c, "1:0;1:1");
        due("just 32", 2, c.hearAll());
        c.undo();
        type(c, "1:0;1:1;1:2;1:3");
        due("two of four", 2, c.hearAll());
        due("pulses", 32, c.count(0));
        due("the pad is empty", 0, c.count(11));
    }

    private static void hearAllFull() {
        test("5: none is heard when there are 32, which is a change that empties the pad");
        CrackTarget c = withPulses(32);
        type(c, "1:0");
        due("hearAll()", 0, c.hearAll());
        due("the pad is empty", 0, c.count(11));
        due("pulses", 32, c.count(0));
        due("undone", 5, c.undo());
        due("pulses", 32, c.count(0));
        due("the one before is undone", 4, c.undo());
        due("pulses", 31, c.count(0));
    }

    private static void hearAllFullAndThere() {
        test("5: up to the first one that returns an error, be it there or too many");
        CrackTarget c = withPulses(31);
        type(c, "1:0;0:5;1:1");
        due("one, then one that is there", 1, c.hearAll());
        due("pulses", 32, c.count(0));
        CrackTarget d = withPulses(31);
        type(d, "0:5;1:0");
        due("one that is there, before the 32nd", 0, d.hearAll());
        due("pulses", 31, d.count(0));
    }

    private static void hearAllWholePad() {
        test("5: a full pad");
        CrackTarget c = new CrackTarget();
        type(c, "0:0;0:1;0:2;0:3;0:4;0:5;0:6;0:7;0:8;0:9;1:0;1:1;1:2;1:3;1:4;1:5;1:6;1:7;1:8;1:9");
        due("79 characters", 79, c.count(11));
        due("20 pulses", 20, c.hearAll());
        type(c, "2:0;2:1;2:2;2:3;2:4;2:5;2:6;2:7;2:8;2:9;3:0;3:1;3:2;3:3;3:4;3:5;3:6;3:7;3:8;3:10");
        due("80 characters", 80, c.count(11));
        due("12 of 20 pulses", 12, c.hearAll());
        due("pulses", 32, c.count(0));
        due("two changes", 2, c.count(12));
    }

    private static void hearAllOneChange() {
        test("5: one change, with all of them");
        CrackTarget c = new CrackTarget();
        c.hear(0, 1);
        type(c, "0:5;1:5;2:5;3:5;0:6;1:6;2:6;3:6");
        due("hearAll()", 8, c.hearAll());
        due("changes", 2, c.count(12));
        due("undo()", 1, c.undo());
        due("all are gone", 1, c.count(0));
        due("the pad stays empty", 0, c.count(11));
    }

    private static void hearAllNoneIsAChange() {
        test("5: a change also if none is heard");
        CrackTarget c = new CrackTarget();
        c.hear(0, 5);
        for (int i = 2; i <= 6; i++) {
            type(c, "0:5");
            due("hearAll()", 0, c.hearAll());
            due("changes", i, c.count(12));
        }
        type(c, "0:5");
        due("hearAll()", 0, c.hearAll());
        for (int left = 5; left >= 0; left--) {
            due("undo()", left, c.undo());
            due("the pulse stays, its hearing was dropped", 1, c.count(0));
        }
    }

    private static void forgetNone() {
        test("6: NO_SUCH if there is no such pulse");
        CrackTarget c = new CrackTarget();
        due("nothing heard", NO_SUCH, c.forget(0));
        due("nothing heard", NO_SUCH, c.forget(-1));
        c.hear(0, 0);
        for (int pulse : new int[] {LOW, -1, 1, 31, 32, HIGH}) {
            due("forget(" + pulse + ")", NO_SUCH, c.forget(pulse));
        }
        due("the only one", 0, c.forget(0));
        due("none is left", NO_SUCH, c.forget(0));
    }

    private static void forgetEach() {
        test("6: the first, one between and the last");
        for (int pulse = 0; pulse < 5; pulse++) {
            CrackTarget c = withPulses(5);
            due("forget(" + pulse + ")", pulse, c.forget(pulse));
            for (int i = 0; i < 4; i++) {
                due("pulse " + i + " then", i < pulse ? i : i + 1, c.pulse(i, 1));
            }
            due("no fifth", NO_SUCH, c.pulse(4, 1));
        }
    }

    private static void forgetTimes() {
        test("6: its time, the least and the greatest");
        CrackTarget c = new CrackTarget();
        c.hear(3, 99999);
        c.hear(3, 0);
        due("the last", 99999, c.forget(1));
        due("the first", 0, c.forget(0));
    }

    private static void forgetOfFull() {
        test("6: of 32 pulses");
        CrackTarget c = withPulses(32);
        due("no 33rd", NO_SUCH, c.forget(32));
        due("the last", 31, c.forget(31));
        due("the first", 0, c.forget(0));
        due("pulses", 30, c.count(0));
        due("the last then", 30, c.pulse(29, 1));
        due("no 31st", NO_SUCH, c.pulse(30, 1));
    }

    private static void clearEmpty() {
        test("7: clear when there are no pulses, a change all the same");
        CrackTarget c = new CrackTarget();
        due("clear()", 0, c.clear());
        due("clear()", 0, c.clear());
        due("changes", 2, c.count(12));
    }

    private static void clearFull() {
        test("7: clear when there are 32");
        CrackTarget c = withPulses(32);
        due("clear()", 32, c.clear());
        due("pulses", 0, c.count(0));
        due("the same pulse again", 0, c.hear(0, 5));
        due("undone", 5, c.undo());
        due("undone", 4, c.undo());
        due("pulses", 32, c.count(0));
    }

    private static void clearKeepsTheRest() {
        test("7: clear forgets all pulses, and nothing else");
        CrackTarget c = new CrackTarget();
        c.set(HEAT, -5);
        c.set(WINDOW, 150);
        c.set(SLACK, 0);
        c.fire(20, 20, 0);
        c.save(0);
        type(c, "0:7");
        due("clear()", 4, c.clear());
        due("settings", "95 150 0 ", kept(c));
        due("shots", 0, c.count(1));
        due("the pad", 3, c.count(11));
        due("changes", 5, c.count(12));
        due("the slot", 4, c.restore(0));
    }
}
