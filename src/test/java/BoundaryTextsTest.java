/** The boundary cases of the texts, promises 17 to 19 of ../shared/DOC.md: each has a test of its own. */
public final class BoundaryTextsTest extends Check {
    private static final String TEN = "0123456789";

    public static void main(String[] args) {
        oneToEightCharacters();
        noCharacter();
        codes33To126();
        codeAtEachPlace();
        bitsAboveAnEnd();
        lastCharacterLowest();
        padOf80();
        padOf81();
        tooManyAfterBadValue();
        putIsNoChange();
        wipeEmpty();
        wipeFull();
        wipeIsNoChange();
        faultOfEmpty();
        faultOfEachBeginning();
        ears();
        timesUpTo99999();
        leadingZeros();
        faultOfSigns();
        firstOfTwoFaults();
        faultAtLastOf80();
        endsTooEarlyAt80();
        rightTextOf80();
        faultChangesNothing();
        end();
    }

    private static CrackTarget with(String text) {
        CrackTarget c = new CrackTarget();
        type(c, text);
        return c;
    }

    private static void fault(String text, int want) {
        CrackTarget c = with(text);
        due("fault of \"" + text + "\"", want, c.fault());
        due("hearAll of \"" + text + "\"", want == NONE ? 0 : BAD_TEXT, Math.min(0, c.hearAll()));
    }

    private static void oneToEightCharacters() {
        test("17: 1 to 8 characters");
        for (int length = 1; length <= 8; length++) {
            CrackTarget c = new CrackTarget();
            due(length + " characters", length, c.put(letters("~!~!~!~!".substring(0, length))));
            due("and the same", 2 * length, c.put(letters("~!~!~!~!".substring(0, length))));
            due("length", 2 * length, c.count(11));
        }
    }

    private static void noCharacter() {
        test("17: BAD_VALUE if there is no character");
        CrackTarget c = new CrackTarget();
        due("put(0)", BAD_VALUE, c.put(0));
        due("length", 0, c.count(11));
    }

    private static void codes33To126() {
        test("17: BAD_VALUE if a code is not 33 to 126");
        for (int code = 0; code < 256; code++) {
            due("code " + code, code >= 33 && code <= 126 ? 1 : BAD_VALUE, new CrackTarget().put(code));
        }
    }

    private static void codeAtEachPlace() {
        test("17: a code that is not 33 to 126, at each place");
        for (int length = 1; length <= 8; length++) {
            for (int place = 0; place < length; place++) {
                long whole = letters("AAAAAAAA".substring(0, length));
                long without = whole & ~(255L << 8 * place);
                for (int code : new int[] {1, 32, 33, 126, 127, 128, 255}) {
                    int due = code == 33 || code == 126 ? length : BAD_VALUE;
                    due(code + " at " + place + " of " + length, due, new CrackTarget().put(without | (long) code << 8 * place));
                }
            }
        }
    }

    private static void bitsAboveAnEnd() {
        test("17: BAD_VALUE if a bit above 8 bits that are 0 is not 0");
        for (int length = 0; length <= 6; length++) {
            long few = letters("AAAAAA".substring(0, length));
            for (int bit = 8 * length + 8; bit < 64; bit++) {
                due(length + " characters and bit " + bit, BAD_VALUE, new CrackTarget().put(few | 1L << bit));
            }
            due("a letter above the end", BAD_VALUE, new CrackTarget().put(few | 65L << 8 * length + 8));
        }
    }

    private static void lastCharacterLowest() {
        test("17: the lowest 8 bits are the last character");
        CrackTarget c = new CrackTarget();
        c.put((long) '2' << 16 | ':' << 8 | '7');
        due("hearAll()", 1, c.hearAll());
        due("ear", 2, c.pulse(0, 0));
        due("time", 7, c.pulse(0, 1));
        c.clear();
        c.put((long) '3' << 56 | (long) ':' << 48 | (long) '1' << 40 | (long) '2' << 32 | '3' << 24 | '4' << 16 | '5' << 8 | ';');
        c.put('0');
        c.put(':' << 8 | '6');
        due("hearAll()", 2, c.hearAll());
        due("all", "115 1900 6  0:6 3:12345", kept(c));
    }

    private static void padOf80() {
        test("17: the pad is a text of at most 80 characters: 80");
        for (int last = 1; last <= 8; last++) {
            CrackTarget c = with((TEN + TEN + TEN + TEN + TEN + TEN + TEN + TEN).substring(0, 80 - last));
            due("put of the last " + last, 80, c.put(letters("12345678".substring(0, last))));
            due("length", 80, c.count(11));
        }
    }

    private static void padOf81() {
        test("17: TOO_MANY if the pad would be longer than 80: 81 and more");
        for (int last = 1; last <= 8; last++) {
            for (int more = 1; more <= last; more++) {
                CrackTarget c = with((TEN + TEN + TEN + TEN + TEN + TEN + TEN + TEN).substring(0, 80 - last + more));
                due(last + " on " + (80 - last + more), TOO_MANY, c.put(letters("12345678".substring(0, last))));
                due("none of them is put", 80 - last + more, c.count(11));
            }
        }
    }

    private static void tooManyAfterBadValue() {
        test("17: BAD_VALUE, TOO_MANY, in this order");
        CrackTarget c = with(TEN + TEN + TEN + TEN + TEN + TEN + TEN + TEN);
        due("no character, full", BAD_VALUE, c.put(0));
        due("32, full", BAD_VALUE, c.put(32));
        due("127, full", BAD_VALUE, c.put(127));
        due("a bit above, full", BAD_VALUE, c.put(1L << 63 | '0'));
        due("full", TOO_MANY, c.put('0'));
    }

    private static void putIsNoChange() {
        test("17: put is no change, and undo leaves the pad");
        CrackTarget c = new CrackTarget();
        c.hear(0, 1);
        type(c, "0:5");
        due("changes", 1, c.count(12));
        due("undo()", 0, c.undo());
        due("length", 3, c.count(11));
    }

    private static void wipeEmpty() {
        test("18: wipe of an empty pad");
        CrackTarget c = new CrackTarget();
        due("wipe()", 0, c.wipe());
        type(c, "0");
        due("wipe()", 1, c.wipe());
        due("wipe()", 0, c.wipe());
        due("length", 0, c.count(11));
    }

    private static void wipeFull() {
        test("18: wipe of a full pad");
        CrackTarget c = with(TEN + TEN + TEN + TEN + TEN + TEN + TEN + TEN);
        due("wipe()", 80, c.wipe());
        due("length", 0, c.count(11));
        due("fault()", 0, c.fault());
        type(c, "0:3");
        due("nothing of the old text is left", NONE, c.fault());
    }

    private static void wipeIsNoChange() {
        test("18: wipe is no change");
        CrackTarget c = new CrackTarget();
        c.hear(0, 1);
        type(c, "0:5");
        c.wipe();
        due("changes", 1, c.count(12));
        c.undo();
        due("undo leaves the pad empty", 0, c.count(11));
    }

    private static void faultOfEmpty() {
        test("19: the length of the text if it is empty");
        fault("", 0);
    }

    private static void faultOfEachBeginning() {
        test("19: the length of the text if it ends too early, NONE if there is no fault");
        String whole = "0:0;1:10;2:99999;3:7";
        for (int length = 0; length <= whole.length(); length++) {
            String text = whole.substring(0, length);
            boolean right = length > 0 && text.charAt(length - 1) != ';' && text.lastIndexOf(':') > text.lastIndexOf(';')
                    && text.charAt(length - 1) != ':';
            fault(text, right ? NONE : length);
        }
    }

    private static void ears() {
        test("19: an ear is a digit from 0 to 3");
        for (char sign = 33; sign <= 126; sign++) {
            fault(sign + ":5", sign >= '0' && sign <= '3' ? NONE : 0);
            fault("0:5;" + sign + ":5", sign >= '0' && sign <= '3' ? NONE : 4);
        }
    }

    private static void timesUpTo99999() {
        test("19: a time is a number up to 99999; also of a digit by which it would be above");
        fault("0:99999", NONE);
        fault("0:99998", NONE);
        fault("0:100000", 7);
        fault("0:999990", 7);
        fault("0:999999", 7);
        fault("0:99999;", 8);
        fault("0:99999;1:100000;2:5", 15);
        fault("0:9999999999", 7);
        fault("0:429496729600000", 7);
        fault("0:10000", NONE);
    }

    private static void leadingZeros() {
        test("19: without leading zeros");
        fault("0:0", NONE);
        fault("0:00", 3);
        fault("0:01", 3);
        fault("0:09", 3);
        fault("0:10", NONE);
        fault("0:1000", NONE);
        fault("0:0;1:0;2:00", 11);
        fault("00:1", 1);
    }

    private static void faultOfSigns() {
        test("19: the first character that cannot stand at its place");
        for (char sign = 33; sign <= 126; sign++) {
            boolean digit = sign >= '0' && sign <= '9';
            fault("0" + sign, sign == ':' ? 2 : 1);
            fault("0:" + sign, digit ? NONE : 2);
            fault("0:5" + sign, digit ? NONE : sign == ';' ? 4 : 3);
            fault("0:0" + sign, sign == ';' ? 4 : 3);
            fault("0:12345" + sign, sign == ';' ? 8 : 7);
        }
    }

    private static void firstOfTwoFaults() {
        test("19: the first of several");
        fault("4:1;5:1", 0);
        fault("0;1;", 1);
        fault("0:1;;;", 4);
        fault("0:00;", 3);
        fault("x", 0);
        fault("0:1:1", 3);
    }

    private static void faultAtLastOf80() {
        test("19: a fault at the last of 80 characters");
        String text = "0:0;0:1;0:2;0:3;0:4;0:5;0:6;0:7;0:8;0:9;1:0;1:1;1:2;1:3;1:4;1:5;1:6;1:7;1:8;1:9";
        fault(text + ":", 79);
        fault(text + "x", 79);
        fault("x" + text, 0);
    }

    private static void endsTooEarlyAt80() {
        test("19: a text of 80 characters that ends too early");
        fault("0:0;0:1;0:2;0:3;0:4;0:5;0:6;0:7;0:8;0:9;1:0;1:1;1:2;1:3;1:4;1:5;1:6;1:7;1:8;1:9;", 80);
        fault("0:10;0:11;0:12;0:13;0:14;0:15;0:16;0:17;0:18;0:19;0:20;0:21;0:22;0:23;0:24;0:2;0:", 80);
    }

    private static void rightTextOf80() {
        test("19: a right text of 80 characters");
        CrackTarget c = with("0:0;0:1;0:2;0:3;0:4;0:5;0:6;0:7;0:8;0:9;1:0;1:1;1:2;1:3;1:4;1:5;1:6;1:7;1:8;1:99");
        due("fault()", NONE, c.fault());
        due("hearAll()", 20, c.hearAll());
        due("the last time", 99, c.pulse(19, 1));
        CrackTarget d = with("0:99990;0:99991;0:99992;0:99993;0:99994;0:99995;0:99996;0:99997;0:99998;0:99999;");
        due("of the longest pulses, an end too early", 80, d.fault());
    }

    private static void faultChangesNothing() {
        test("19: fault changes nothing");
        CrackTarget c = with("0:1;1:2");
        due("fault()", NONE, c.fault());
        due("fault()", NONE, c.fault());
        due("pulses", 0, c.count(0));
        due("length", 7, c.count(11));
        due("changes", 0, c.count(12));
        type(c, "3");
        due("hearAll()", 2, c.hearAll());
        due("all", "115 1900 6  0:1 1:23", kept(c));
    }
}
