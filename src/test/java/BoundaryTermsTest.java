import java.math.BigInteger;

/** The boundary cases that the 'Terms' of ../shared/DOC.md name, but for those of texts: each has a test of its own. */
public final class BoundaryTermsTest extends Check {
    public static void main(String[] args) {
        noneOnlyWithoutError();
        numberedFromZero();
        divisionsRoundedDown();
        heatRange();
        windowRange();
        slackRange();
        pointsZeroTo40();
        earsAtCorners();
        distancesRoundedDown();
        crackTimesRoundedDown();
        upTo32Pulses();
        timesOfPulses();
        noTwoPulsesAlike();
        orderOfPulses();
        placeOfLeastY();
        placeOfLeastX();
        placeOfLeastYBeforeLeastX();
        spreadJustSlack();
        spreadOfZero();
        spreadOf300();
        farthestWithinWindow();
        windowOf100();
        notBelowFirst();
        firstTwoAlone();
        oneAlone();
        rowsWithFirst();
        anEarHasNone();
        strayIsUsed();
        pulsesOfShotAreUsed();
        firstOfRowsAlike();
        leastRowIsKept();
        leastPlaceOfRowNotRowOfPlace();
        shotsNumberedAsFound();
        eightShots();
        momentBelowZero();
        momentIsLeastStart();
        ringAtLeastZero();
        ringOfEachPlace();
        end();
    }

    private static void noneOnlyWithoutError() {
        test("NONE is returned only if no error applies");
        CrackTarget c = new CrackTarget();
        due("mean(2) without shots", BAD_VALUE, c.mean(2));
        due("mean(1) without shots", NONE, c.mean(1));
        c.hear(0, 5);
        due("pulse(0, 3) of a stray", BAD_VALUE, c.pulse(0, 3));
        due("pulse(0, 2) of a stray", NONE, c.pulse(0, 2));
        due("pulse(1, 2) behind a stray", NO_SUCH, c.pulse(1, 2));
    }

    private static void numberedFromZero() {
        test("everything is numbered from 0");
        CrackTarget c = new CrackTarget();
        due("the first pulse", 0, c.hear(0, 831));
        c.fire(20, 20, 1000);
        due("the pulse of the first shot", 0, c.pulse(1, 2));
        due("the first shot", 20, c.shot(0, 0));
        due("its last pulse", 4, c.shot(0, 8));
    }

    private static void divisionsRoundedDown() {
        test("all divisions are rounded down, to the next lesser whole number");
        int[][] speeds = {{-30, 313}, {-29, 313}, {-28, 314}, {-6, 327}, {-5, 328}, {-4, 328}, {-3, 329}, {-2, 329}, {-1, 330},
            {0, 331}, {1, 331}, {2, 332}, {3, 332}, {4, 333}, {5, 334}, {15, 340}, {49, 360}, {50, 361}};
        for (int[] speed : speeds) {
            CrackTarget c = new CrackTarget();
            c.set(HEAT, speed[0]);
            due("speed at " + speed[0], speed[1], c.count(7));
        }
    }

    private static void heatRange() {
        test("HEAT: -30 to 50; 15");
        range(HEAT, -30, 50, 15, 8, 100);
    }

    private static void windowRange() {
        test("WINDOW: 100 to 4000; 1900");
        range(WINDOW, 100, 4000, 1900, 9, 0);
    }

    private static void slackRange() {
        test("SLACK: 0 to 300; 6");
        range(SLACK, 0, 300, 6, 10, 0);
    }

    private static void range(int setting, int least, int greatest, int first, int what, int more) {
        CrackTarget c = new CrackTarget();
        due("first value", first + more, c.count(what));
        due("below", BAD_VALUE, c.set(setting, least - 1));
        due("above", BAD_VALUE, c.set(setting, greatest + 1));
        due("far below", BAD_VALUE, c.set(setting, LOW));
        due("far above", BAD_VALUE, c.set(setting, HIGH));
        due("still the first value", first + more, c.count(what));
        due("the least", first + 100, c.set(setting, least));
        due("the least is held", least + more, c.count(what));
        due("the greatest", least + 100, c.set(setting, greatest));
        due("the greatest is held", greatest + more, c.count(what));
        for (int value = least; value <= greatest; value++) {
            CrackTarget each = new CrackTarget();
            due("set to " + value, first + 100, each.set(setting, value));
            due("held", value + more, each.count(what));
        }
    }

    private static void pointsZeroTo40() {
        test("x and y of a point are 0 to 40");
        CrackTarget c = new CrackTarget();
        c.fire(20, 20, 0);
        for (int i = -3; i <= 43; i++) {
            boolean inside = i >= 0 && i <= 40;
            due("takes, x " + i, inside ? 0 : NO_SUCH, Math.min(0, c.takes(i, 20, 0)));
            due("takes, y " + i, inside ? 0 : NO_SUCH, Math.min(0, c.takes(20, i, 0)));
            due("fits, x " + i, inside ? 0 : NO_SUCH, Math.min(0, c.fits(0, i, 20)));
            due("fits, y " + i, inside ? 0 : NO_SUCH, Math.min(0, c.fits(0, 20, i)));
            due("fire, x " + i, inside ? 4 : NO_SUCH, new CrackTarget().fire(i, 20, 0));
            due("fire, y " + i, inside ? 4 : NO_SUCH, new CrackTarget().fire(20, i, 0));
        }
    }

    private static void earsAtCorners() {
        test("the ears are 0 at (0, 0), 1 at (40, 0), 2 at (40, 40) and 3 at (0, 40)");
        int[][] corners = {{0, 0}, {40, 0}, {40, 40}, {0, 40}};
        int[] due = {0, 1176, 1663, 1176};
        CrackTarget c = new CrackTarget();
        for (int corner = 0; corner < 4; corner++) {
            for (int ear = 0; ear < 4; ear++) {
                int away = (ear - corner + 4) % 4;
                due("from corner " + corner + " to ear " + ear, due[away], c.takes(corners[corner][0], corners[corner][1], ear));
            }
        }
    }

    private static int exactDistance(int x, int y) {
        return BigInteger.valueOf(10000L * (x * x + y * y)).sqrt().intValue();
    }

    private static void distancesRoundedDown() {
        test("the distance is a square root, rounded down");
        due("whole: 3 and 4", 500, widest(23, 24));
        due("whole: 12 and 16", 2000, widest(32, 36));
        due("just above a whole one: 2 and 0", 200, widest(22, 20));
        due("141.42", 141, widest(21, 21));
        due("2828.43", 2828, widest(40, 40));
        due("1897.37", 1897, widest(26, 38));
        due("824.62", 824, widest(28, 18));
        due("none", 0, widest(20, 20));
    }

    /** The distance of the places of a shot in the middle and of another one. */
    private static int widest(int x, int y) {
        CrackTarget c = new CrackTarget();
        c.fire(20, 20, 0);
        c.fire(x, y, 10000);
        return c.count(6);
    }

    private static void crackTimesRoundedDown() {
        test("a crack takes 100 times the distance, divided by the speed");
        int[][] ears = {{0, 0}, {40, 0}, {40, 40}, {0, 40}};
        for (int heat : new int[] {-30, -7, 15, 50}) {
            CrackTarget c = new CrackTarget();
            c.set(HEAT, heat);
            for (int point = 0; point < 41 * 41; point++) {
                for (int ear = 0; ear < 4; ear++) {
                    int x = point % 41;
                    int y = point / 41;
                    int due = 100 * exactDistance(x - ears[ear][0], y - ears[ear][1]) / c.count(7);
                    due("from " + x + ", " + y + " to " + ear + " at " + heat, due, c.takes(x, y, ear));
                }
            }
        }
    }

    private static void upTo32Pulses() {
        test("there are up to 32 pulses");
        CrackTarget c = new CrackTarget();
        for (int i = 0; i < 32; i++) {
            due("pulse " + i, i, c.hear(i % 4, 10 * i));
        }
        due("one more", TOO_MANY, c.hear(0, 50000));
        due("pulses", 32, c.count(0));
        due("the last", 310, c.pulse(31, 1));
        c.forget(5);
        due("one fits in again", 31, c.hear(0, 50000));
        due("and no other", TOO_MANY, c.hear(0, 50001));
    }

    private static void timesOfPulses() {
        test("the time of a pulse is 0 to 99999");
        for (int ear = 0; ear < 4; ear++) {
            CrackTarget c = new CrackTarget();
            due("-1", BAD_VALUE, c.hear(ear, -1));
            due("100000", BAD_VALUE, c.hear(ear, 100000));
            due("99999", 0, c.hear(ear, 99999));
            due("0", 0, c.hear(ear, 0));
            due("the earliest", 0, c.pulse(0, 1));
            due("the latest", 99999, c.pulse(1, 1));
        }
    }

    private static void noTwoPulsesAlike() {
        test("no two pulses are of the same ear at the same time");
        for (int ear = 0; ear < 4; ear++) {
            for (int time : new int[] {0, 1, 500, 99999}) {
                CrackTarget c = new CrackTarget();
                c.hear(ear, time);
                due("the same", NOT_POSSIBLE, c.hear(ear, time));
                due("another ear", 1, Math.min(1, c.hear((ear + 1) % 4, time) + 1));
                due("another time", 1, Math.min(1, c.hear(ear, time == 0 ? 1 : time - 1) + 1));
                due("pulses", 3, c.count(0));
            }
        }
    }

    private static void orderOfPulses() {
        test("pulses are numbered by their times, of the same time by their ears");
        CrackTarget c = new CrackTarget();
        int[][] heard = {{3, 7}, {2, 7}, {0, 8}, {1, 7}, {3, 6}, {0, 7}, {3, 0}, {0, 99999}};
        int[] numbers = {0, 0, 2, 0, 0, 1, 0, 7};
        for (int i = 0; i < heard.length; i++) {
            due("hear " + heard[i][0] + ":" + heard[i][1], numbers[i], c.hear(heard[i][0], heard[i][1]));
        }
        due("all", "115 1900 6  3:0 3:6 0:7 1:7 2:7 3:7 0:8 0:99999", kept(c));
    }

    private static void placed(CrackTarget c, int x, int y, int spread, int[]... alike) {
        due("x", x, c.shot(0, 0));
        due("y", y, c.shot(0, 1));
        due("spread", spread, c.shot(0, 2));
        due("there", spread, c.fits(0, x, y));
        for (int[] other : alike) {
            due("another as good", spread, c.fits(0, other[0], other[1]));
        }
    }

    private static void placeOfLeastY() {
        test("of several points that fit alike, the one with the least y");
        placed(hearing(300, 1104, 1104, 1000, 1000), 20, 22, 21, new int[] {20, 23});
        placed(hearing(300, 1050, 1847, 1864, 1230), 0, 17, 62, new int[] {0, 18});
    }

    private static void placeOfLeastX() {
        test("of these with the least x");
        placed(hearing(300, 1018, 1027, 1083, 1136), 20, 18, 53, new int[] {21, 18});
        placed(hearing(300, 1071, 1087, 1198, 1173), 19, 17, 39, new int[] {20, 17});
        placed(hearing(300, 2067, 2136, 1375, 1099), 15, 40, 171, new int[] {16, 40});
        placed(hearing(300, 1087, 1052, 1129, 1052), 19, 19, 77, new int[] {20, 19}, new int[] {19, 20}, new int[] {20, 20});
    }

    private static void placeOfLeastYBeforeLeastX() {
        test("the least y comes before the least x");
        placed(hearing(300, 1024, 1084, 1149, 1084), 19, 18, 41, new int[] {18, 19});
        placed(hearing(300, 2391, 2025, 1355, 2025), 33, 32, 35, new int[] {32, 33});
    }

    private static void spreadJustSlack() {
        test("a spread of at most SLACK makes a shot");
        due("SLACK 21, spread 21", 1, hearing(21, 1104, 1104, 1000, 1000).count(1));
        due("SLACK 20, spread 21", 0, hearing(20, 1104, 1104, 1000, 1000).count(1));
        due("SLACK 20, all strays", 4, hearing(20, 1104, 1104, 1000, 1000).count(2));
        due("SLACK 6, spread 6", 1, hearing(6, 1000, 1000, 1006, 1000).count(1));
        due("SLACK 6, spread 7", 0, hearing(6, 1000, 1000, 1007, 1000).count(1));
        due("SLACK 1, spread 1", 1, hearing(1, 1000, 1000, 1001, 1000).count(1));
    }

    private static void spreadOfZero() {
        test("with the SLACK 0, only a spread of 0 makes a shot");
        due("spread 0", 1, hearing(0, 1000, 1000, 1000, 1000).count(1));
        due("spread 1", 0, hearing(0, 1000, 1000, 1001, 1000).count(1));
    }

    private static void spreadOf300() {
        test("with the SLACK 300, a spread of 300 makes a shot");
        placed(hearing(300, 1000, 1000, 1513, 1000), 14, 14, 300);
        due("301", 0, hearing(300, 1000, 1000, 1514, 1000).count(1));
        placed(hearing(300, 1000, 1300, 1000, 1300), 20, 20, 300);
        due("301", 0, hearing(300, 1000, 1301, 1000, 1301).count(1));
    }

    private static void farthestWithinWindow() {
        test("times at most WINDOW above that of the first pulse");
        int[][] corners = {{0, 0}, {40, 0}, {40, 40}, {0, 40}};
        for (int[] corner : corners) {
            CrackTarget c = new CrackTarget();
            c.fire(corner[0], corner[1], 0);
            c.set(WINDOW, 1663);
            due("just WINDOW above", 1, c.count(1));
            c.set(WINDOW, 1662);
            due("one more than WINDOW", 0, c.count(1));
            due("strays", 4, c.count(2));
        }
    }

    private static void windowOf100() {
        test("the least WINDOW, at each ear");
        for (int ear = 0; ear < 4; ear++) {
            int[] times = {99899, 99899, 99899, 99899};
            times[ear] = 99999;
            CrackTarget c = hearing(300, times);
            c.set(WINDOW, 100);
            due("100 above, ear " + ear, 1, c.count(1));
            times[ear] = 99998;
            times[(ear + 1) % 4] = 99897;
            CrackTarget d = hearing(300, times);
            d.set(WINDOW, 100);
            due("101 above, ear " + ear, 0, d.count(1));
            d.set(WINDOW, 101);
            due("WINDOW 101, ear " + ear, 1, d.count(1));
            d.set(WINDOW, 4000);
            due("WINDOW 4000, ear " + ear, 1, d.count(1));
        }
    }

    private static void notBelowFirst() {
        test("times not below that of the first pulse: the same time is looked at");
        CrackTarget c = hearing(0, 0, 0, 0, 0);
        due("all at 0", 1, c.count(1));
        due("all at 99999", 1, hearing(0, 99999, 99999, 99999, 99999).count(1));
        // the pulse of ear 0 is first, and a stray: for the one of ear 3 it is earlier
        CrackTarget d = hearing(0, 999, 1000, 1000, 1000);
        due("one before", 0, d.count(1));
        d.hear(0, 1001);
        due("and one behind", 0, d.count(1));
        d.hear(0, 1000);
        due("and one at the same time", 1, d.count(1));
        due("the first is a stray", NONE, d.pulse(0, 2));
        due("and the last", NONE, d.pulse(5, 2));
    }

    private static void firstTwoAlone() {
        test("for each other ear the first two unused pulses are looked at, and no third one");
        int[][] corners = {{0, 0}, {40, 0}, {40, 40}, {0, 40}};
        for (int first = 0; first < 4; first++) {
            for (int ear = 0; ear < 4; ear++) {
                CrackTarget c = new CrackTarget();
                c.fire(corners[first][0], corners[first][1], 1000);
                if (ear != first) {
                    c.hear(ear, 1150);
                    due("the second of ear " + ear, 1, c.count(1));
                    c.hear(ear, 1151);
                    due("the third of ear " + ear, 0, c.count(1));
                }
            }
            CrackTarget d = new CrackTarget();
            d.fire(corners[first][0], corners[first][1], 1000);
            for (int ear = 0; ear < 4; ear++) {
                due("one before each", ear == first ? NOT_POSSIBLE : 1, Math.min(1, d.hear(ear, ear == first ? 1000 : 1150)));
            }
            due("the second of each", 1, d.count(1));
            due("its spread", 0, d.shot(0, 2));
            due("three strays", 3, d.count(2));
        }
    }

    private static void oneAlone() {
        test("or the one, if there is one alone");
        for (int crowded = 0; crowded < 4; crowded++) {
            CrackTarget c = new CrackTarget();
            c.fire(20, 20, 1000);
            c.hear(crowded, 1900);
            due("one of the others", 1, c.count(1));
            due("one is left", 1, c.count(2));
        }
    }

    private static void rowsWithFirst() {
        test("rows are tried with the first pulse, though a later one of its ear would fit better");
        for (int first = 0; first < 4; first++) {
            CrackTarget c = hearing(20, 1010, 1010, 1010, 1010);
            c.hear(first, 1000);
            due("the first of ear " + first, 1000, c.pulse(c.shot(0, 5 + first), 1));
            due("its spread", 10, c.shot(0, 2));
            c.hear((first + 1) % 4, 900);
            due("an earlier stray, which looks at both", NONE, c.pulse(0, 2));
            due("the first of ear " + first + " still", 1000, c.pulse(c.shot(0, 5 + first), 1));
            due("shots", 1, c.count(1));
        }
    }

    private static void anEarHasNone() {
        test("if an ear has none, the first pulse is a stray, and used");
        for (int ear = 0; ear < 4; ear++) {
            CrackTarget c = new CrackTarget();
            c.fire(20, 20, 1000);
            c.forget(ear);
            due("no shot without ear " + ear, 0, c.count(1));
            due("three strays", 3, c.count(2));
            c.hear((ear + 1) % 4, 1700);
            c.hear(ear, 1831);
            due("the one that is first has none in time", 1, c.count(1));
            c.set(WINDOW, 100);
            due("the others make a shot", 1, c.count(1));
            due("a stray", NONE, c.pulse(0, 2));
            due("of the shot", 0, c.pulse(4, 2));
        }
    }

    private static void strayIsUsed() {
        test("a stray is used: it is not looked at again, even for a pulse at its time");
        CrackTarget c = new CrackTarget();
        c.fire(40, 0, 1000);
        c.hear(0, 1000);
        c.hear(0, 1500);
        due("the first is a stray", NONE, c.pulse(0, 2));
        due("the third pulse of ear 0 is the second unused one", 1, c.count(1));
        due("its pulse of ear 0", 3, c.shot(0, 5));
        c.hear(0, 1501);
        due("the fourth is not", 0, c.count(1));
    }

    private static void pulsesOfShotAreUsed() {
        test("the four pulses of a shot are used");
        CrackTarget c = new CrackTarget();
        for (int i = 0; i < 4; i++) {
            c.fire(20, 20, 1000 + 10 * i);
            due("each of the shots is found", i + 1, c.count(1));
        }
        for (int i = 0; i < 16; i++) {
            due("pulse " + i, i / 4, c.pulse(i, 2));
        }
    }

    /** Rows are numbered from 0 (the earlier pulse of each ear) to 7, the lowest ear counting 4. */
    private static void firstOfRowsAlike() {
        test("of several rows with the least spread the first one, the rows in order by the lowest ear, the next, the last");
        int[][][] rows = {
            {{0, 0, 12}, {1000}, {1005, 1019}, {1012, 1029}, {1001, 1004}}, // 1
            {{0, 0, 17}, {1000}, {1017, 1029}, {1010, 1017}, {1014, 1040}}, // 2
            {{0, 1, 27}, {1000}, {1017, 1084}, {1097, 1113}, {1061, 1110}}, // 2
            {{0, 1, 20}, {1000}, {1001, 1137}, {1145, 1191}, {1010, 1138}}, // 4
            {{0, 2, 22}, {1000}, {1024, 1052}, {1046, 1085}, {1022, 1172}}, // 4
            {{0, 3, 24}, {1000}, {1004, 1051}, {1121, 1149}, {1068, 1173}}, // 4
            {{0, 4, 38}, {1000}, {1033, 1591}, {1675, 1891}, {1222, 1229}}, // 5
            {{0, 6, 24}, {1000}, {1006, 1030}, {1018, 1135}, {1083, 1086}}, // 7
            {{1, 0, 13}, {1003, 1010}, {1000}, {1013, 1028}, {1003, 1019}}, // 4
            {{1, 1, 22}, {1076, 1087}, {1000}, {1022, 1147}, {1087, 1123}}, // 4
            {{1, 2, 14}, {1006, 1127}, {1000}, {1044, 1177}, {1179, 1189}}, // 4
            {{1, 3, 25}, {1053, 1077}, {1000}, {1073, 1156}, {1178, 1189}}, // 4
            {{1, 5, 21}, {1006, 1149}, {1000}, {1025, 1047}, {1181, 1194}}, // 6
            {{2, 0, 6}, {1006, 1037}, {1001, 1020}, {1000}, {1003, 1004}}, // 1
            {{2, 1, 20}, {1103, 1107}, {1048, 1093}, {1000}, {1019, 1062}}, // 2
            {{2, 2, 26}, {1083, 1133}, {1072, 1104}, {1000}, {1026, 1125}}, // 4
            {{2, 3, 27}, {1120, 1172}, {1033, 1059}, {1000}, {1051, 1107}}, // 5
            {{2, 5, 24}, {1027, 1200}, {1018, 1122}, {1000}, {1105, 1200}}, // 6
            {{3, 1, 24}, {1024, 1134}, {1041, 1083}, {1018, 1051}, {1000}}, // 2
            {{3, 1, 22}, {1018, 1102}, {1105, 1200}, {1021, 1084}, {1000}}, // 4
            {{3, 3, 21}, {1057, 1107}, {1112, 1136}, {1003, 1106}, {1000}}, // 4
            {{3, 4, 14}, {1018, 1045}, {1152, 1189}, {1114, 1117}, {1000}}}; // 5
        for (int[][] row : rows) {
            keeps(row);
        }
    }

    /** A row is {ear of the first pulse, number of the row that is kept, its spread}, then the times of each ear. */
    private static void keeps(int[][] row) {
        CrackTarget c = new CrackTarget();
        c.set(SLACK, 300);
        int bit = 4;
        int[] kept = new int[4];
        for (int ear = 0; ear < 4; ear++) {
            kept[ear] = row[ear + 1][0];
            for (int time : row[ear + 1]) {
                c.hear(ear, time);
            }
            if (ear != row[0][0]) {
                kept[ear] = row[ear + 1][(row[0][1] & bit) != 0 ? 1 : 0];
                bit /= 2;
            }
        }
        due("one shot", 1, c.count(1));
        due("spread", row[0][2], c.shot(0, 2));
        for (int ear = 0; ear < 4; ear++) {
            due("first ear " + row[0][0] + ", row " + row[0][1] + ", ear " + ear, kept[ear], c.pulse(c.shot(0, 5 + ear), 1));
        }
    }

    private static void leastRowIsKept() {
        test("the row with the least spread is kept, be it the last one");
        CrackTarget c = new CrackTarget();
        c.set(SLACK, 300);
        c.hear(0, 1000);
        for (int ear = 1; ear < 4; ear++) {
            c.hear(ear, 1100);
            c.hear(ear, 1000 + ear % 2);
        }
        due("earlier ones, spread 1", 1, c.shot(0, 2));
        c.clear();
        c.fire(0, 0, 1000);
        c.hear(1, 2170);
        c.hear(2, 2655);
        c.hear(3, 2170);
        due("later ones, spread 0", 0, c.shot(0, 2));
        for (int ear = 1; ear < 4; ear++) {
            due("the later pulse of ear " + ear, ear == 2 ? 2663 : 2176, c.pulse(c.shot(0, 5 + ear), 1));
        }
        due("three strays", 3, c.count(2));
    }

    private static void leastPlaceOfRowNotRowOfPlace() {
        test("a row's order comes before the place's");
        CrackTarget c = new CrackTarget();
        c.fire(10, 15, 1000);
        c.hear(1, 1000 + c.takes(10, 15, 3));
        c.hear(3, 1000 + c.takes(10, 15, 1));
        due("the row with the earlier pulse of ear 1: x", 15, c.shot(0, 0));
        due("y", 10, c.shot(0, 1));
        c.clear();
        c.fire(15, 10, 1000);
        c.hear(1, 1000 + c.takes(15, 10, 3));
        c.hear(3, 1000 + c.takes(15, 10, 1));
        due("the same pulses: x", 15, c.shot(0, 0));
        due("y", 10, c.shot(0, 1));
    }

    private static void shotsNumberedAsFound() {
        test("shots are numbered in the order in which they are found");
        CrackTarget c = new CrackTarget();
        // the later shot is heard first, since it is near an ear
        c.fire(20, 20, 1000);
        c.fire(0, 0, 1700);
        due("found first: x", 0, c.shot(0, 0));
        due("its moment", 11700, c.shot(0, 3));
        due("found second: x", 20, c.shot(1, 0));
        due("its moment", 11000, c.shot(1, 3));
    }

    private static void eightShots() {
        test("32 pulses are eight shots at most");
        CrackTarget c = new CrackTarget();
        for (int i = 0; i < 8; i++) {
            c.fire(4 * i, 36 - 4 * i, 10000 * i);
        }
        due("pulses", 32, c.count(0));
        due("shots", 8, c.count(1));
        due("strays", 0, c.count(2));
        due("x of the last", 28, c.shot(7, 0));
        due("y of the last", 8, c.shot(7, 1));
        due("the last pulse is of the last shot", 7, c.pulse(31, 2));
        due("no more", NO_SUCH, c.shot(8, 0));
    }

    private static void momentBelowZero() {
        test("a moment can be below 0");
        due("all at 0", 10000 - 831, hearing(0, 0, 0, 0, 0).shot(0, 3));
        CrackTarget c = hearing(0, 0, 0, 0, 0);
        c.set(HEAT, -30);
        due("at -30", 10000 - 903, c.shot(0, 3));
        due("the greatest", 10000 + 99999 - 831, hearing(0, 99999, 99999, 99999, 99999).shot(0, 3));
    }

    private static void momentIsLeastStart() {
        test("the moment of a shot is its least start");
        int[] times = {1000, 1000, 1000, 1000};
        for (int ear = 0; ear < 4; ear++) {
            times[ear] = 995;
            due("ear " + ear + " the least", 10000 + 995 - 831, hearing(6, times).shot(0, 3));
            times[ear] = 1005;
            due("ear " + ear + " the greatest", 10000 + 1000 - 831, hearing(6, times).shot(0, 3));
            times[ear] = 1000;
        }
    }

    private static void ringAtLeastZero() {
        test("the ring is 10 less the distance divided by 200, but at least 0");
        int[][] rings = {{20, 20, 10}, {21, 20, 10}, {21, 21, 10}, {20, 22, 9}, {18, 20, 9}, {23, 22, 9}, {20, 24, 8}, {39, 26, 1},
            {20, 38, 1}, {38, 20, 1}, {40, 20, 0}, {20, 0, 0}, {8, 4, 0}, {39, 27, 0}, {40, 21, 0}, {37, 36, 0}, {40, 38, 0},
            {0, 0, 0}, {40, 40, 0}};
        for (int[] ring : rings) {
            CrackTarget c = new CrackTarget();
            c.fire(ring[0], ring[1], 500);
            due("x", ring[0], c.shot(0, 0));
            due("y", ring[1], c.shot(0, 1));
            due("ring at " + ring[0] + ", " + ring[1], ring[2], c.shot(0, 4));
        }
    }

    private static void ringOfEachPlace() {
        test("the ring of each place");
        for (int point = 0; point < 41 * 41; point++) {
            CrackTarget c = new CrackTarget();
            c.fire(point % 41, point / 41, 500);
            int away = exactDistance(c.shot(0, 0) - 20, c.shot(0, 1) - 20);
            due("at " + point % 41 + ", " + point / 41, Math.max(0, 10 - away / 200), c.shot(0, 4));
        }
    }
}
