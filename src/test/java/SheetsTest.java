/** Promises 38 to 44: spots and sheets. */
public final class SheetsTest {
    public static void main(String[] args) {
        holding();
        asKinds();
        sheet();
        write();
        copy();
        load();
        judge();
        Check.end();
    }

    private static void holding() {
        FollowedHours x = Check.garden("dial;twin");
        Check.due("hold(0, 1)", x.hold(0, 1), 1);
        Check.due("hold(9, 0)", x.hold(9, 0), 1);
        Check.due("count(7)", x.count(7), 2);
        Check.due("hold(9, -1)", x.hold(9, -1), 1);
        Check.due("hold(8, -1)", x.hold(8, -1), 1);
        Check.due("count(7)", x.count(7), 1);
        int[][] wrong = {{-1, 0}, {10, 0}, {0, 2}, {0, -2}, {10, -1}, {Check.MIN, 0}, {0, Check.MAX}};
        for (int[] w : wrong) {
            Check.due("hold", x.hold(w[0], w[1]), Check.BEYOND);
        }
        Check.due("as(0, 0)", x.as(0, 0), 1);
        Check.due("as(9, 0)", x.as(9, 0), Check.MISSING);
    }

    private static void asKinds() {
        FollowedHours x = Check.garden("dial;late;twin;back;proud;half;later");
        // by KIND of the DIAL: the kinds that it is, as a set
        int[] is = {1, 1 + 2, 1 + 4, 1 + 4 + 8, 1 + 4 + 8 + 16, 1 + 32, 1 + 2 + 64};
        for (int d = 0; d < 7; d++) {
            x.hold(3, d);
            for (int kind = 0; kind < 7; kind++) {
                int want = (is[d] >> kind & 1) == 1 ? d : Check.KIND;
                Check.due("as " + kind + " of " + d, x.as(3, kind), want);
            }
        }
        Check.due("as(3, 7)", x.as(3, 7), Check.BEYOND);
        Check.due("as(3, -1)", x.as(3, -1), Check.BEYOND);
        Check.due("as(10, 0)", x.as(10, 0), Check.BEYOND);
        Check.due("as(-1, 0)", x.as(-1, 0), Check.BEYOND);
        Check.due("as(4, 7)", x.as(4, 7), Check.BEYOND);
        Check.due("as(4, 6)", x.as(4, 6), Check.MISSING);
        x.change(6, 0, 3);
        Check.due("as by a changed KIND", x.as(3, 2), 6);
    }

    private static void sheet() {
        FollowedHours x = new FollowedHours();
        int[] bits = {8, 16, 32};
        for (int b : bits) {
            Check.due("sheet(0, " + b + ", 40)", x.sheet(0, b, 40), 40);
            Check.due("write", x.write(0, 39, 1), 1);
            Check.due("write", x.write(0, 40, 1), Check.BEYOND);
            Check.due("sheet(0, " + b + ", 0)", x.sheet(0, b, 0), 0);
            Check.due("write", x.write(0, 0, 1), Check.BEYOND);
        }
        Check.due("sheet(0, 0, 7)", x.sheet(0, 0, 7), 0);
        Check.due("write", x.write(0, 0, 1), Check.MISSING);
        int[] others = {-8, 1, 7, 24, 64, Check.MIN};
        for (int b : others) {
            Check.due("sheet(0, " + b + ", 1)", x.sheet(0, b, 1), Check.BEYOND);
            Check.due("sheet(0, " + b + ", -1)", x.sheet(0, b, -1), Check.BEYOND);
        }
        Check.due("sheet(4, 8, 1)", x.sheet(4, 8, 1), Check.BEYOND);
        Check.due("sheet(-1, 8, -1)", x.sheet(-1, 8, -1), Check.BEYOND);
        Check.due("sheet(3, 8, -1)", x.sheet(3, 8, -1), Check.SIZE);
        Check.due("sheet(3, 0, -1)", x.sheet(3, 0, -1), Check.SIZE);
        Check.due("sheet(3, 0, MIN)", x.sheet(3, 0, Check.MIN), Check.SIZE);
        Check.due("sheet(3, 8, 41)", x.sheet(3, 8, 41), Check.BEYOND);
        Check.due("sheet(3, 0, 41)", x.sheet(3, 0, 41), Check.BEYOND);
        Check.due("still MISSING", x.load(3), Check.MISSING);
        sheetIsLaidAnew();
    }

    private static void sheetIsLaidAnew() {
        FollowedHours x = Check.garden("dial;dial;dial");
        Check.lay(x, 0, 16, 11, 12, 13);
        Check.due("sheet(0, 32, 41)", x.sheet(0, 32, 41), Check.BEYOND);
        Check.due("it stays", x.load(0), 3);
        Check.due("HOURS", x.count(4), 36);
        Check.due("sheet(0, 16, 3)", x.sheet(0, 16, 3), 3);
        Check.due("load(0)", x.load(0), 3);
        Check.due("HOURS", x.count(4), 0);
    }

    /** What number 0 of sheet 0 is: a bisection by load is not to be had, so masters() tells of it. */
    private static void write() {
        FollowedHours x = new FollowedHours();
        x.dial(0);
        x.sheet(0, 8, 1);
        x.write(0, 0, 127);
        Check.due("load of 127", x.load(0), 1);
        Check.due("SHOWS", x.of(0, 1), 127);
        x.write(0, 0, 128);
        Check.due("load of -128", x.load(0), 0);
        x.write(0, 0, 255);
        Check.due("255 of 8 bits is -1: any", x.masters(0, 0), 1);
        x.write(0, 0, 256 + 5);
        x.load(0);
        Check.due("261 of 8 bits", x.of(0, 1), 5);
        x.sheet(0, 16, 1);
        x.write(0, 0, 65536 + 700);
        x.load(0);
        Check.due("66236 of 16 bits", x.of(0, 1), 700);
        x.write(0, 0, 65535);
        Check.due("65535 of 16 bits is -1: any", x.masters(0, 0), 1);
        x.write(0, 0, 255);
        Check.due("255 of 16 bits isn't", x.masters(0, 0), 0);
        x.sheet(0, 32, 1);
        x.write(0, 0, 65535);
        Check.due("65535 of 32 bits isn't", x.masters(0, 0), 0);
        x.write(0, 0, 65536 + 700);
        Check.due("66236 of 32 bits", x.load(0), 0);
        Check.due("write(0, 1, 0)", x.write(0, 1, 0), Check.BEYOND);
        Check.due("write(0, -1, 0)", x.write(0, -1, 0), Check.BEYOND);
        Check.due("write(1, -1, 0)", x.write(1, -1, 0), Check.MISSING);
        Check.due("write(4, 0, 0)", x.write(4, 0, 0), Check.BEYOND);
        Check.due("write(-1, 0, 0)", x.write(-1, 0, 0), Check.BEYOND);
    }

    private static void copy() {
        FollowedHours x = Check.garden("dial;dial;dial;dial");
        Check.lay(x, 0, 16, 1, 2, 3, 4);
        Check.due("copy onto itself, up", x.copy(0, 0, 0, 1, 3), 3);
        rowIs(x, 0, 1, 1, 2, 3);
        Check.due("copy onto itself, down", x.copy(0, 1, 0, 0, 3), 3);
        rowIs(x, 0, 1, 2, 3, 3);
        Check.lay(x, 1, 16, 9, 8, 7);
        Check.due("copy(1, 1, 0, 2, 2)", x.copy(1, 1, 0, 2, 2), 2);
        rowIs(x, 0, 1, 2, 8, 7);
        Check.due("copy of a whole sheet", x.copy(1, 0, 0, 0, 3), 3);
        rowIs(x, 0, 9, 8, 7, 7);
        Check.due("copy back", x.copy(1, 1, 0, 2, 2), 2);
        rowIs(x, 0, 9, 8, 8, 7);
        Check.lay(x, 0, 16, 1, 2, 8, 7);
        Check.due("copy of none at the end", x.copy(1, 3, 0, 4, 0), 0);
        int[][] beyond = {{1, 0, 0, 0, 4}, {1, 2, 0, 0, 2}, {0, 0, 1, 2, 2}, {1, 4, 0, 0, 0}, {1, 0, 0, 5, 0},
            {1, -1, 0, 0, 1}, {1, 0, 0, -1, 1}, {1, 0, 0, 0, -1}, {1, Check.MAX, 0, 0, 2}, {1, 1, 0, 1, Check.MAX},
            {1, Check.MIN, 0, 0, Check.MAX}, {1, 0, 0, Check.MAX, 1}, {1, 1, 0, 1, Check.MIN},
            {-1, 0, 0, 0, 0}, {4, 0, 0, 0, 0}, {0, 0, -1, 0, 0}, {0, 0, 4, 0, 0}, {4, 0, 3, 0, 0}, {3, 0, 4, 0, 0}};
        for (int[] b : beyond) {
            Check.due("copy " + java.util.Arrays.toString(b), x.copy(b[0], b[1], b[2], b[3], b[4]), Check.BEYOND);
        }
        rowIs(x, 0, 1, 2, 8, 7);
        Check.due("copy to a MISSING one", x.copy(0, 0, 3, 0, -1), Check.MISSING);
        Check.due("copy from a MISSING one", x.copy(3, 0, 0, 0, 9), Check.MISSING);
        x.sheet(2, 8, 4);
        Check.due("copy to other bits", x.copy(0, 0, 2, 0, 1), Check.KIND);
        Check.due("copy to other bits, wrong too", x.copy(0, -1, 2, 0, 99), Check.KIND);
    }

    private static void rowIs(FollowedHours x, int s, int... want) {
        Check.due("load", x.load(s), want.length);
        for (int d = 0; d < want.length; d++) {
            Check.due("number " + d, x.of(d, 1), want[d]);
        }
    }

    private static void load() {
        FollowedHours x = Check.garden("dial shows 5;dial shows 6;dial shows 7");
        Check.lay(x, 0, 32, 719, 720, 1);
        Check.due("load(0): ends at 720", x.load(0), 1);
        Check.due("HOURS", x.count(4), 719 + 6 + 7);
        x.write(0, 1, -1);
        Check.due("load(0): ends at -1", x.load(0), 1);
        x.write(0, 1, 0);
        Check.due("load(0)", x.load(0), 3);
        Check.due("HOURS", x.count(4), 720);
        Check.lay(x, 1, 32, 1, 2, 3, 4);
        Check.due("load(1): no DIAL 3", x.load(1), 3);
        Check.lay(x, 1, 32, 5, 6);
        Check.due("load(1): two numbers", x.load(1), 2);
        Check.due("HOURS: the third stays", x.count(4), 5 + 6 + 3);
        x.sheet(1, 32, 0);
        Check.due("load(1) of none", x.load(1), 0);
        Check.due("load(2)", x.load(2), Check.MISSING);
        Check.due("load(4)", x.load(4), Check.BEYOND);
        Check.due("load(-1)", x.load(-1), Check.BEYOND);
    }

    private static void judge() {
        FollowedHours x = Check.garden("dial;dial follows 0;dial follows 1;master 0 2");
        Check.lay(x, 0, 8, 1, 0, 2, 1, 0);
        Check.due("judge(0)", x.judge(0), 0);
        x.write(0, 4, 1);
        Check.due("judge(0)", x.judge(0), 5);
        x.write(0, 1, -1);
        Check.due("judge(0)", x.judge(0), 2);
        x.write(0, 0, 3);
        Check.due("judge(0)", x.judge(0), 1);
        x.write(0, 0, -1);
        Check.due("judge(0)", x.judge(0), 1);
        x.sheet(0, 8, 0);
        Check.due("judge(0) of none", x.judge(0), 0);
        Check.due("judge(1)", x.judge(1), Check.MISSING);
        Check.due("judge(4)", x.judge(4), Check.BEYOND);
        Check.due("judge(-1)", x.judge(-1), Check.BEYOND);
        Check.lay(x, 1, 16, 0);
        Check.due("judge(1) of one", x.judge(1), 0);
        FollowedHours none = new FollowedHours();
        none.sheet(0, 8, 1);
        Check.due("judge without DIALS", none.judge(0), 1);
    }
}
