import java.util.function.ToIntFunction;

/** The boundary cases of undo, save and restore, promises 20 to 22 of ../shared/DOC.md: each has a test of its own. */
public final class BoundaryHistoryTest extends Check {
    public static void main(String[] args) {
        undoNone();
        undoOne();
        sixAreKept();
        theSeventhDropsTheOldest();
        eachChangeRecords();
        alsoIfNothingIsDifferent();
        otherMethodsRecordNothing();
        refusedCallsRecordNothing();
        pulsesOfATextRecordNothing();
        undoIsNoChange();
        changesAfterUndo();
        everythingIsAsItWas();
        padIsNotUndone();
        slotsAreNotUndone();
        longHistory();
        saveSlots();
        saveEmptyAndFull();
        saveOverwrites();
        saveKeepsNoHistory();
        saveIsNoChange();
        laterChangesDoNotReachTheSlot();
        restoreSlots();
        restoreNothingSaved();
        restoreOfEmpty();
        restoreIsAChange();
        restoreOfTheSame();
        slotKeepsIt();
        restoreLeavesPadAndOtherSlot();
        restoreDropsTheOldest();
        the512thCall();
        end();
    }

    private static void undoNone() {
        test("20: NOT_POSSIBLE if there is none");
        CrackTarget c = new CrackTarget();
        due("a new object", NOT_POSSIBLE, c.undo());
        due("once more", NOT_POSSIBLE, c.undo());
        c.hear(0, 1);
        due("one", 0, c.undo());
        due("none left", NOT_POSSIBLE, c.undo());
        due("count(12)", 0, c.count(12));
    }

    private static void undoOne() {
        test("20: undo answers how many can be undone then");
        CrackTarget c = new CrackTarget();
        c.hear(0, 1);
        c.hear(0, 2);
        due("of two", 1, c.undo());
        due("the latest is undone", 1, c.pulse(0, 1));
        due("of one", 0, c.undo());
        due("pulses", 0, c.count(0));
    }

    private static void sixAreKept() {
        test("20: at most 6 states are kept: 6");
        CrackTarget c = new CrackTarget();
        for (int i = 1; i <= 6; i++) {
            c.set(SLACK, 10 * i);
            due("changes", i, c.count(12));
        }
        for (int left = 5; left >= 0; left--) {
            due("undo()", left, c.undo());
            due("SLACK", left == 0 ? 6 : 10 * left, c.count(10));
        }
        due("undo()", NOT_POSSIBLE, c.undo());
    }

    private static void theSeventhDropsTheOldest() {
        test("20: when one more is recorded, the oldest one is dropped: 7");
        CrackTarget c = new CrackTarget();
        for (int i = 1; i <= 7; i++) {
            c.set(SLACK, 10 * i);
        }
        due("changes", 6, c.count(12));
        for (int left = 5; left >= 0; left--) {
            due("undo()", left, c.undo());
            due("SLACK", 10 * left + 10, c.count(10));
        }
        due("undo()", NOT_POSSIBLE, c.undo());
        due("the first change stays", 10, c.count(10));
    }

    private static CrackTarget begun() {
        CrackTarget c = new CrackTarget();
        c.hear(1, 4);
        c.save(0);
        c.set(HEAT, 3);
        c.fire(2, 3, 4);
        type(c, "2:0;0:0;3:0");
        return c;
    }

    private static void changes(String call, ToIntFunction<CrackTarget> calling) {
        String before = kept(begun());
        CrackTarget c = begun();
        due(call + " is no error", 0, Math.min(0, calling.applyAsInt(c)));
        due(call + " is recorded", 4, c.count(12));
        due(call + " undone", 3, c.undo());
        due("after undoing " + call, before, kept(c));
    }

    private static void eachChangeRecords() {
        test("20: each method that is a change records the state before it, one");
        changes("set", c -> c.set(WINDOW, 800));
        changes("hear", c -> c.hear(3, 3));
        changes("fire", c -> c.fire(9, 9, 9));
        changes("hearAll", CrackTarget::hearAll);
        changes("forget", c -> c.forget(0));
        changes("clear", CrackTarget::clear);
        changes("restore", c -> c.restore(0));
    }

    private static void alsoIfNothingIsDifferent() {
        test("20: also if nothing is different then");
        CrackTarget c = new CrackTarget();
        c.set(HEAT, 15);
        due("set", 1, c.count(12));
        c.set(WINDOW, 1900);
        due("set", 2, c.count(12));
        c.clear();
        due("clear", 3, c.count(12));
        c.save(1);
        c.restore(1);
        due("restore", 4, c.count(12));
        c.hear(0, 1);
        type(c, "0:1");
        due("none heard", 0, c.hearAll());
        due("hearAll", 6, c.count(12));
        c.undo();
        due("hear is the latest then", 1, c.count(0));
        c.undo();
        due("hear is undone", 0, c.count(0));
    }

    private static void recordsNothing(String call, ToIntFunction<CrackTarget> calling) {
        CrackTarget c = begun();
        calling.applyAsInt(c);
        due("changes after " + call, 3, c.count(12));
        c.undo();
        due("the latest change after " + call, "103 1900 6  1:4", kept(c));
    }

    private static void otherMethodsRecordNothing() {
        test("20: a method that is no change records nothing");
        recordsNothing("takes", c -> c.takes(0, 0, 0));
        recordsNothing("pulse", c -> c.pulse(0, 2));
        recordsNothing("shot", c -> c.shot(0, 0));
        recordsNothing("count", c -> c.count(1));
        recordsNothing("fits", c -> c.fits(0, 0, 0));
        recordsNothing("mean", c -> c.mean(0));
        recordsNothing("ifHeat", c -> c.ifHeat(50, 0));
        recordsNothing("bestHeat", CrackTarget::bestHeat);
        recordsNothing("ifForgot", c -> c.ifForgot(0));
        recordsNothing("put", c -> c.put('7'));
        recordsNothing("wipe", CrackTarget::wipe);
        recordsNothing("fault", CrackTarget::fault);
        recordsNothing("save", c -> c.save(1));
    }

    private static void refusedCallsRecordNothing() {
        test("20: a method that returns an error records nothing");
        recordsNothing("set", c -> c.set(HEAT, 51));
        recordsNothing("hear", c -> c.hear(1, 4));
        recordsNothing("fire", c -> c.fire(2, 3, 4));
        recordsNothing("hearAll", c -> {
            c.put(';');
            return c.hearAll();
        });
        recordsNothing("forget", c -> c.forget(5));
        recordsNothing("restore", c -> c.restore(1));
        recordsNothing("restore", c -> c.restore(2));
    }

    private static void pulsesOfATextRecordNothing() {
        test("20: a pulse of a text records nothing by itself");
        CrackTarget c = begun();
        due("three pulses", 3, c.hearAll());
        due("changes", 4, c.count(12));
        due("undo()", 3, c.undo());
        due("none of the three is left", 5, c.count(0));
        due("undo()", 2, c.undo());
        due("before the shot", 1, c.count(0));
    }

    private static void undoIsNoChange() {
        test("20: undo is no change, and cannot be undone");
        CrackTarget c = begun();
        c.undo();
        due("changes", 2, c.count(12));
        c.undo();
        due("heat", 115, c.count(8));
        c.undo();
        due("pulses", 0, c.count(0));
        due("undo()", NOT_POSSIBLE, c.undo());
    }

    private static void changesAfterUndo() {
        test("20: changes after some were undone, beyond 6");
        CrackTarget c = new CrackTarget();
        for (int i = 1; i <= 9; i++) {
            c.set(SLACK, i);
        }
        c.undo();
        c.undo();
        c.undo();
        due("SLACK", 6, c.count(10));
        due("changes", 3, c.count(12));
        for (int i = 11; i <= 14; i++) {
            c.set(SLACK, i);
        }
        due("changes", 6, c.count(12));
        int[] slacks = {13, 12, 11, 6, 5, 4};
        for (int i = 0; i < 6; i++) {
            due("undo()", 5 - i, c.undo());
            due("SLACK", slacks[i], c.count(10));
        }
        due("undo()", NOT_POSSIBLE, c.undo());
    }

    private static void everythingIsAsItWas() {
        test("20: everything except the pad, the slots and the history is as it was, the shots too");
        CrackTarget c = new CrackTarget();
        c.set(HEAT, -30);
        c.fire(3, 33, 100);
        due("a shot", 3, c.shot(0, 0));
        c.set(HEAT, 50);
        due("another one, or none", 0, c.count(1));
        c.undo();
        due("the shot again: x", 3, c.shot(0, 0));
        due("y", 33, c.shot(0, 1));
        due("what a crack takes", 1807, c.takes(0, 0, 2));
        c.clear();
        due("none", 0, c.count(1));
        c.undo();
        due("the shot again", 1, c.count(1));
        due("its pulse", 0, c.pulse(0, 2));
    }

    private static void padIsNotUndone() {
        test("20: except the pad");
        CrackTarget c = new CrackTarget();
        type(c, "0:1");
        c.hear(3, 3);
        type(c, ";1:1");
        c.undo();
        due("length", 7, c.count(11));
        due("hearAll()", 2, c.hearAll());
        c.undo();
        due("the text does not come back", 0, c.count(11));
        due("nor its pulses stay", 0, c.count(0));
    }

    private static void slotsAreNotUndone() {
        test("20: except the slots");
        CrackTarget c = new CrackTarget();
        c.hear(0, 1);
        c.save(0);
        c.hear(0, 2);
        c.save(1);
        c.undo();
        c.undo();
        due("slot 0", 1, c.restore(0));
        due("slot 1", 2, c.restore(1));
    }

    private static void longHistory() {
        test("20: the last 6 of very many");
        CrackTarget c = new CrackTarget();
        for (int i = 1; i <= 500; i++) {
            c.set(SLACK, i % 300);
        }
        for (int i = 1; i <= 6; i++) {
            due("undo()", 6 - i, c.undo());
            due("SLACK", 200 - i, c.count(10));
        }
        due("undo()", NOT_POSSIBLE, c.undo());
    }

    private static void saveSlots() {
        test("21: BAD_VALUE if there is no such slot, 0 or 1");
        CrackTarget c = new CrackTarget();
        c.hear(0, 0);
        for (int slot : new int[] {LOW, -1, 2, HIGH}) {
            due("slot " + slot, BAD_VALUE, c.save(slot));
        }
        due("nothing was saved", NOT_POSSIBLE, c.restore(0));
        due("nothing was saved", NOT_POSSIBLE, c.restore(1));
        due("slot 0", 1, c.save(0));
        due("nothing was saved", NOT_POSSIBLE, c.restore(1));
        due("slot 1", 1, c.save(1));
    }

    private static void saveEmptyAndFull() {
        test("21: how many pulses there are, none and 32");
        CrackTarget c = new CrackTarget();
        due("none", 0, c.save(0));
        for (int i = 0; i < 32; i++) {
            c.hear(3, 99999 - i);
        }
        due("32", 32, c.save(1));
        due("none", 0, c.restore(0));
        due("no pulse", NO_SUCH, c.pulse(0, 1));
        due("32", 32, c.restore(1));
        due("the first", 99968, c.pulse(0, 1));
        due("the last", 99999, c.pulse(31, 1));
    }

    private static void saveOverwrites() {
        test("21: overwrites what was saved there");
        CrackTarget c = new CrackTarget();
        c.fire(20, 20, 0);
        c.set(SLACK, 33);
        c.save(0);
        c.clear();
        c.set(SLACK, 44);
        due("none", 0, c.save(0));
        c.hear(1, 1);
        due("what was saved last", 0, c.restore(0));
        due("its SLACK", 44, c.count(10));
    }

    private static void saveKeepsNoHistory() {
        test("21: everything except the pad, the history and the slots");
        CrackTarget c = new CrackTarget();
        c.set(HEAT, 1);
        c.set(WINDOW, 222);
        c.set(SLACK, 3);
        c.hear(2, 5);
        type(c, "0:1");
        c.save(0);
        c.wipe();
        type(c, "1:23456");
        c.save(1);
        c.undo();
        c.undo();
        due("changes", 2, c.count(12));
        c.restore(0);
        due("the history is not of the slot", 3, c.count(12));
        due("nor is the pad", 7, c.count(11));
        due("nor is the other slot", 1, c.restore(1));
        due("settings and pulses", "101 222 3  2:5", kept(c));
    }

    private static void saveIsNoChange() {
        test("21: save is no change");
        CrackTarget c = new CrackTarget();
        c.save(0);
        due("changes", 0, c.count(12));
        due("undo()", NOT_POSSIBLE, c.undo());
    }

    private static void laterChangesDoNotReachTheSlot() {
        test("21: later changes do not reach what was saved");
        CrackTarget c = new CrackTarget();
        c.fire(1, 2, 3);
        c.save(0);
        String saved = kept(c);
        c.hear(0, 0);
        c.forget(3);
        c.set(HEAT, 0);
        c.undo();
        c.clear();
        c.restore(0);
        due("restored", saved, kept(c));
        c.clear();
        c.hear(0, 77);
        c.restore(0);
        due("restored again", saved, kept(c));
    }

    private static void restoreSlots() {
        test("22: BAD_VALUE if there is no such slot, 0 or 1, before NOT_POSSIBLE");
        CrackTarget c = new CrackTarget();
        for (int slot : new int[] {LOW, -1, 2, HIGH}) {
            due("slot " + slot + ", nothing saved", BAD_VALUE, c.restore(slot));
        }
        c.save(0);
        c.save(1);
        for (int slot : new int[] {LOW, -1, 2, HIGH}) {
            due("slot " + slot, BAD_VALUE, c.restore(slot));
        }
        due("changes", 0, c.count(12));
    }

    private static void restoreNothingSaved() {
        test("22: NOT_POSSIBLE if nothing was saved in it");
        for (int slot = 0; slot <= 1; slot++) {
            CrackTarget c = new CrackTarget();
            c.hear(0, 9);
            due("restore", NOT_POSSIBLE, c.restore(slot));
            c.save(1 - slot);
            due("the other one was saved", NOT_POSSIBLE, c.restore(slot));
            c.restore(1 - slot);
            c.undo();
            c.undo();
            due("still nothing was saved", NOT_POSSIBLE, c.restore(slot));
            c.save(slot);
            due("saved now", 0, c.restore(slot));
        }
    }

    private static void restoreOfEmpty() {
        test("22: a state without pulses can be restored");
        CrackTarget c = new CrackTarget();
        c.save(1);
        c.fire(20, 20, 0);
        c.set(SLACK, 0);
        due("restore", 0, c.restore(1));
        due("settings", "115 1900 6 ", kept(c));
        due("no shots", 0, c.count(1));
    }

    private static void restoreIsAChange() {
        test("22: restore is a change");
        CrackTarget c = new CrackTarget();
        c.save(0);
        c.fire(20, 20, 0);
        c.restore(0);
        due("changes", 2, c.count(12));
        due("undo()", 1, c.undo());
        due("pulses", 4, c.count(0));
        due("shots", 1, c.count(1));
    }

    private static void restoreOfTheSame() {
        test("22: restore of what there is, a change all the same");
        CrackTarget c = new CrackTarget();
        c.fire(20, 20, 0);
        c.save(0);
        for (int i = 2; i <= 6; i++) {
            due("restore", 4, c.restore(0));
            due("changes", i, c.count(12));
        }
    }

    private static void slotKeepsIt() {
        test("22: the slot keeps it");
        CrackTarget c = new CrackTarget();
        c.hear(1, 11);
        c.save(1);
        for (int i = 0; i < 3; i++) {
            c.clear();
            c.set(HEAT, i);
            due("restore", 1, c.restore(1));
            due("all", "115 1900 6  1:11", kept(c));
        }
    }

    private static void restoreLeavesPadAndOtherSlot() {
        test("22: restore leaves the pad, the history and the other slot");
        CrackTarget c = new CrackTarget();
        c.hear(1, 11);
        c.save(0);
        c.hear(1, 12);
        c.save(1);
        type(c, "0:3");
        c.restore(0);
        due("length", 3, c.count(11));
        due("changes", 3, c.count(12));
        due("the other slot", 2, c.restore(1));
        due("undo()", 3, c.undo());
        due("undo()", 2, c.undo());
        due("undo()", 1, c.undo());
        due("pulses", 1, c.count(0));
    }

    private static void restoreDropsTheOldest() {
        test("22: the seventh change, being restore");
        CrackTarget c = new CrackTarget();
        c.save(0);
        for (int i = 1; i <= 6; i++) {
            c.hear(0, i);
        }
        due("restore", 0, c.restore(0));
        due("changes", 6, c.count(12));
        for (int left = 5; left >= 0; left--) {
            due("undo()", left, c.undo());
            due("pulses", left + 1, c.count(0));
        }
        due("undo()", NOT_POSSIBLE, c.undo());
    }

    private static void the512thCall() {
        test("an object is used for at most 512 calls: the last of them");
        CrackTarget c = new CrackTarget();
        for (int i = 0; i < 126; i++) {
            c.fire(20, 20, i);
            due("a shot", 1, c.count(1));
            due("its moment", 10000 + i, c.shot(0, 3));
            c.clear();
        }
        // 504 calls until here
        for (int i = 0; i < 7; i++) {
            c.fire(2 * i, 20, 10000 * i);
        }
        due("the 512th", 7, c.count(1));
    }
}
