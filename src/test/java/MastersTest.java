/** Promises 26 to 28: masters. */
public final class MastersTest {
    public static void main(String[] args) {
        masters();
        kinds();
        findings();
        masterFor();
        Check.end();
    }

    private static void masters() {
        FollowedHours x = Check.garden("dial goes 3;dial goes 5;dial goes 3;dial shows 100");
        Check.lay(x, 0, 16, 100, 103, 106);
        Check.due("masters(0, 3)", x.masters(0, 3), 5);
        x.write(0, 2, -1);
        x.write(0, 1, 105);
        Check.due("masters(0, 3)", x.masters(0, 3), 2);
        x.write(0, 1, 101);
        Check.due("masters(0, 3): itself", x.masters(0, 3), 8);
        x.write(0, 1, -1);
        Check.due("masters(0, 3): any", x.masters(0, 3), 15);
        x.write(0, 0, 99);
        Check.due("masters(0, 3): not so now", x.masters(0, 3), 0);
        x.write(0, 0, -2);
        Check.due("masters(0, 3): no HOUR", x.masters(0, 3), 0);
        x.sheet(1, 32, 0);
        Check.due("masters(1, 3): nothing told", x.masters(1, 3), 15);
        Check.lay(x, 2, 8, 255, 103);
        Check.due("masters(2, 3): 8 bits", x.masters(2, 3), 5);
        Check.lay(x, 3, 32, 65535, 103);
        Check.due("masters(3, 3): 32 bits", x.masters(3, 3), 0);
        Check.due("MASTER stays", x.of(3, 2), 3);
        Check.due("TICK stays", x.now(0), 0);
    }

    private static void kinds() {
        FollowedHours x = Check.garden("dial goes 4;dial shows 100 follows 0");
        Check.lay(x, 0, 16, 100, 108);
        Check.due("kinds(0, 1)", x.kinds(0, 1), 4);
        x.write(0, 1, 92);
        Check.due("kinds(0, 1)", x.kinds(0, 1), 24);
        x.write(0, 1, 102);
        Check.due("kinds(0, 1)", x.kinds(0, 1), 96);
        Check.lay(x, 0, 16, -1, 102, 105);
        Check.due("kinds(0, 1)", x.kinds(0, 1), 32);
        Check.lay(x, 0, 16, -1, -1, 106);
        Check.due("kinds(0, 1)", x.kinds(0, 1), 2);
        Check.due("kinds(0, 0): its own MASTER", x.kinds(0, 0), 0);
        Check.lay(x, 0, 16, 0, 4, 8);
        Check.due("kinds(0, 0): its own MASTER", x.kinds(0, 0), 127);
        Check.due("KIND stays", x.of(1, 0), 0);
    }

    private static void findings() {
        FollowedHours x = new FollowedHours();
        int[] sheets = {-1, 4, Check.MIN, Check.MAX};
        for (int s : sheets) {
            Check.due("masters", x.masters(s, 0), Check.BEYOND);
            Check.due("kinds", x.kinds(s, 0), Check.BEYOND);
        }
        Check.due("masters(3, 0)", x.masters(3, 0), Check.MISSING);
        Check.due("kinds(3, 0)", x.kinds(3, 0), Check.MISSING);
        x.sheet(3, 8, 1);
        Check.due("masters(3, 0)", x.masters(3, 0), Check.BEYOND);
        Check.due("kinds(3, 0)", x.kinds(3, 0), Check.BEYOND);
        x.dial(0);
        Check.due("masters(3, 0)", x.masters(3, 0), 1);
        Check.due("kinds(3, 0)", x.kinds(3, 0), 127);
        Check.due("masters(3, -1)", x.masters(3, -1), Check.BEYOND);
        Check.due("kinds(3, 1)", x.kinds(3, 1), Check.BEYOND);
        Check.due("masters(2, -1)", x.masters(2, -1), Check.MISSING);
    }

    private static void masterFor() {
        FollowedHours x = Check.garden("dial goes - 3;dial goes 5;dial goes 0;dial goes 9");
        Check.due("masterFor(3, 50, 10)", x.masterFor(3, 50, 10), 1);
        Check.due("masterFor(3, 700, 10)", x.masterFor(3, 700, 10), 0);
        Check.due("masterFor(3, 719, 10)", x.masterFor(3, 719, 10), 2);
        Check.due("masterFor(3, 25, 10): of two the least", x.masterFor(3, 25, 10), 1);
        Check.due("masterFor(3, 90, 10): itself", x.masterFor(3, 90, 10), 3);
        Check.due("masterFor(3, 500, 0)", x.masterFor(3, 500, 0), 0);
        Check.due("masterFor(3, 705, 10): of two the least", x.masterFor(3, 705, 10), 0);
        int[][] wrong = {{4, 0, 0}, {-1, 0, 0}, {0, 720, 0}, {0, -1, 0}, {0, 0, -1}, {0, 0, 101}};
        for (int[] w : wrong) {
            Check.due("masterFor", x.masterFor(w[0], w[1], w[2]), Check.BEYOND);
        }
        Check.due("masterFor(0, 0, 100)", x.masterFor(0, 0, 100), 2);
        FollowedHours pair = Check.garden("dial goes 5;dial goes 9");
        Check.due("masterFor(1, 0, 10): none stands", pair.masterFor(1, 0, 10), 0);
    }
}
