/** Promises 35 to 37: texts. */
public final class TextsTest {
    public static void main(String[] args) {
        feedAndWipe();
        gardens();
        faults();
        everyByte();
        tooManyDials();
        faultChangesNothing();
        Check.end();
    }

    private static void feedAndWipe() {
        FollowedHours x = new FollowedHours();
        int[] wrong = {0, -1, 5, Check.MIN, Check.MAX};
        for (int n : wrong) {
            Check.due("feed(0, " + n + ")", x.feed(0, n), Check.BEYOND);
        }
        Check.due("feed 'dial'", x.feed(0x6469616c, 4), 4);
        Check.due("feed ';la'", x.feed(0x7f3b6c61, 3), 7);
        Check.due("feed 'te'", x.feed(0x00007465, 2), 9);
        Check.due("count(5)", x.count(5), 9);
        Check.due("text()", x.text(), 2);
        Check.due("count(5)", x.count(5), 0);
        Check.due("KIND", x.of(1, 0), 1);
        for (int i = 1; i <= 29; i++) {
            Check.due("feed", x.feed(0x20202020, 4), 4 * i);
        }
        Check.due("feed", x.feed(0x20, 1), 117);
        Check.due("feed(.., 4)", x.feed(0, 4), Check.FULL);
        Check.due("feed(.., 5)", x.feed(0, 5), Check.BEYOND);
        Check.due("feed(.., 3)", x.feed(0x202020, 3), 120);
        Check.due("feed(.., 1)", x.feed(0, 1), Check.FULL);
        Check.due("text() of blanks", x.text(), -121);
        x.feed(0, 3);
        Check.due("wipe()", x.wipe(), 3);
        Check.due("wipe()", x.wipe(), 0);
        Check.due("text() of nothing", x.text(), -1);
    }

    private static void gardens() {
        FollowedHours x = new FollowedHours();
        String all = "proud shows0719follows00goes-099moss09stopped;half shows00follows00goes099;twin follows02goes-00";
        Check.due("text()", Check.read(x, all), 3);
        int[][] want = {{4, 719, 0, 0, 1, 9}, {5, 0, 0, 99, 0, 0}, {2, 0, 2, 0, 0, 0}};
        for (int d = 0; d < 3; d++) {
            for (int what = 0; what < 6; what++) {
                Check.due("of(" + d + ", " + what + ")", x.of(d, what), want[d][what]);
            }
        }
        Check.due("text()", Check.read(x, "  late ;  later  goes - 7 ;back moss 3;dial stopped;master 0 6;master 6 4  "), 6);
        int[][] more = {{1, 0, 3, 1, 0, 0}, {6, 0, 4, -7, 0, 0}, {3, 0, 5, 1, 0, 3}, {0, 0, 4, 0, 1, 0}};
        for (int d = 0; d < 4; d++) {
            for (int what = 0; what < 6; what++) {
                Check.due("of(" + (d + 3) + ", " + what + ")", x.of(d + 3, what), more[d][what]);
            }
        }
        Check.due("MASTER of 0", x.of(0, 2), 6);
        Check.due("text(): masters alone", Check.read(x, "master 0 1;master 0 2;master 0 3"), 3);
        Check.due("MASTER of 0", x.of(0, 2), 3);
        Check.due("text(): long NUMBER", Check.read(x, "dial shows 0000000000000000000000000000719"), 1);
        Check.due("SHOWS", x.of(7, 1), 719);
    }

    private static void faults() {
        Object[][] rows = {
            {"", 0}, {" ", 1}, {"dial ", 1, "items"}, {"dial;", 5}, {"dial; ", 6}, {";dial", 0},
            {"dials", 0}, {"kial", 0}, {"dian", 0}, {"dial khows 1", 5}, {"pater", 0}, {"dia", 0}, {"Dial", 0}, {"dIal", 0}, {"dial1", 4}, {"dial,late", 4}, {"dial;;late", 5},
            {"dial\tlate", 4}, {"dial\n", 4}, {"lateshows 3", 0}, {"dial shows", 10}, {"dial shows ", 11},
            {"dial shows -1", 11}, {"dial shows 720", 11}, {"dial shows 1000", 11}, {"dial shows 4294967296", 11},
            {"dial shows 7 19", 13}, {"dial shows 99999999999999999999999", 11}, {"dial shows x", 11},
            {"dial follows", 12}, {"dial follows 1", 13}, {"dial follows 0 shows 1", 15}, {"dial;late follows 2", 18},
            {"dial;late follows 1", 2, "items"}, {"dial goes", 9}, {"dial goes -", 11}, {"dial goes - -1", 12},
            {"dial goes 100", 10}, {"dial goes -100", 11}, {"dial goes moss 1", 10}, {"dial goes 1 goes 2", 12},
            {"dial moss", 9}, {"dial moss 10", 10}, {"dial moss -1", 10}, {"dial moss 1 goes 1", 12},
            {"dial stopped stopped", 13}, {"dial stopped moss 1", 13}, {"dial stop", 5}, {"dial -", 5},
            {"master", 6}, {"master 0", 7}, {"dial;master", 11}, {"dial;master 0", 13}, {"dial;master 0 ", 14},
            {"dial;master 1 0", 12}, {"dial;master 0 1", 14}, {"dial;master 0 0", 2, "items"},
            {"dial;master 0 0 0", 16}, {"dial;master 00", 14}, {"dial;master 0 0 stopped", 16},
            {"dial;master 0;0", 13}, {"dial master 0 0", 5}, {"late;master 0 -0", 14}, {"7", 0}, {"-", 0}, {"dial;#", 5},
            {"dial shows #", 11}, {"shows 1", 0}, {"stopped", 0}, {"half;half;watch;!", 10}, {"dial shows 1 ;", 14}};
        for (Object[] row : rows) {
            int number = (Integer) row[1];
            int want = row.length == 3 ? number : -1 - number;
            FollowedHours x = new FollowedHours();
            Check.due("text() of " + row[0], Check.read(x, (String) row[0]), want);
            Check.due("THE TAPE after " + row[0], x.count(5), 0);
            Check.due("no finding of " + row[0], x.status(-1), 0);
        }
    }

    /** Behind "dial" each byte but blank, ; and letters can't stand; letters make it another WORD. */
    private static void everyByte() {
        for (int b = 0; b < 256; b++) {
            FollowedHours x = new FollowedHours();
            x.feed(0x6469616c, 4);
            x.feed(b, 1);
            boolean isLetter = b >= 'a' && b <= 'z';
            int want = b == ' ' ? 1 : b == ';' ? -6 : isLetter ? -1 : -5;
            Check.due("text() of dial and byte " + b, x.text(), want);
        }
    }

    private static void tooManyDials() {
        FollowedHours x = new FollowedHours();
        Check.due("ten", Check.read(x, "late;late;late;late;late;late;late;late;late;late"), 10);
        Check.due("one more", Check.read(x, "master 1 9;dial shows 720"), -12);
        Check.due("MASTER of 1", x.of(1, 2), 1);
        Check.due("no more than masters", Check.read(x, "master 1 9"), 1);
        Check.due("MASTER of 1", x.of(1, 2), 9);
    }

    private static void faultChangesNothing() {
        FollowedHours x = Check.garden("dial shows 3;late follows 0");
        Check.due("text()", Check.read(x, "twin goes 9;master 0 1;half moss 12"), -34);
        Check.due("DIALS", x.count(1), 2);
        Check.due("MASTER of 0", x.of(0, 2), 0);
        Check.due("HOURS", x.count(4), 3);
        Check.due("dial", x.dial(5), 2);
        Check.due("GOING", x.of(2, 3), 1);
        Check.due("no findings", x.status(-1), 0);
    }
}
