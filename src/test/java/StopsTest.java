/** Promises 29 to 34: stops and frosts. */
public final class StopsTest {
    public static void main(String[] args) {
        halted();
        weakest();
        cut();
        cutOfSeveral();
        frosts();
        odds();
        seed();
        Check.end();
    }

    private static void halted() {
        FollowedHours x = Check.garden("dial;dial follows 0;dial follows 1;dial");
        Check.due("halted(0, 0)", x.halted(0, 0), 1);
        Check.due("halted(0, 1)", x.halted(0, 1), 2);
        Check.due("halted(0, 2)", x.halted(0, 2), 3);
        Check.due("halted(0, 100)", x.halted(0, 100), 3);
        Check.due("halted(3, 100)", x.halted(3, 100), 1);
        Check.due("halted(2, 100)", x.halted(2, 100), 1);
        x.stop(3, 1);
        x.change(3, 3, 7);
        Check.due("halted(3, 0): not anew", x.halted(3, 0), 0);
        Check.due("halted(3, 1): not anew", x.halted(3, 1), 1);
        x.change(1, 0, 4);
        Check.due("halted(0, 5): PROUD goes on", x.halted(0, 5), 2);
        int[][] wrong = {{4, 0}, {-1, 0}, {0, -1}, {0, 101}};
        for (int[] w : wrong) {
            Check.due("halted", x.halted(w[0], w[1]), Check.BEYOND);
        }
    }

    private static void weakest() {
        FollowedHours x = new FollowedHours();
        Check.due("weakest(-1)", x.weakest(-1), Check.BEYOND);
        Check.due("weakest(101)", x.weakest(101), Check.BEYOND);
        Check.due("weakest(0)", x.weakest(0), Check.NONE);
        Check.read(x, "dial;dial;dial follows 1;dial follows 2");
        Check.due("weakest(0)", x.weakest(0), 0);
        Check.due("weakest(1)", x.weakest(1), 1);
        Check.due("weakest(100)", x.weakest(100), 1);
        x.change(0, 2, 3);
        x.change(1, 2, 0);
        Check.due("weakest(100): a RING", x.weakest(100), 0);
    }

    private static void cut() {
        FollowedHours x = new FollowedHours();
        Check.due("cut of none", x.cut(5), 0);
        Check.due("cut(-1)", x.cut(-1), Check.BEYOND);
        Check.due("cut(101)", x.cut(101), Check.BEYOND);
        Check.read(x, "dial;dial follows 0;dial follows 1;dial");
        Check.due("cut(0)", x.cut(0), 15);
        Check.due("cut(1)", x.cut(1), 11);
        Check.due("cut(2)", x.cut(2), 9);
        Check.due("cut(100)", x.cut(100), 9);
        x.stop(3, 1);
        Check.due("cut(100)", x.cut(100), 1);
        x.change(1, 0, 4);
        Check.due("cut(100): PROUD has to be stopped too", x.cut(100), 3);
        x.change(3, 3, 2);
        Check.due("cut(0): a STOPPED one goes", x.cut(0), Check.NONE);
        Check.due("cut(1): it does not any more", x.cut(1), 3);
        FollowedHours moss = Check.garden("dial goes 5 moss 1;dial goes 4 moss 2");
        Check.due("cut(5): all halt alone", moss.cut(5), 0);
        Check.due("cut(4)", moss.cut(4), 1);
        Check.due("cut(1)", moss.cut(1), 3);
    }

    private static void cutOfSeveral() {
        FollowedHours x = Check.garden("dial;dial;dial;dial;master 0 1;master 1 0;master 2 3;master 3 2");
        Check.due("cut(100): one of each RING", x.cut(100), 5);
        Check.due("cut(1)", x.cut(1), 5);
        x.change(2, 2, 0);
        x.change(3, 2, 2);
        Check.due("cut(1): the least of several", x.cut(1), 5);
        Check.due("cut(3)", x.cut(3), 1);
        FollowedHours few = Check.garden("dial;dial;dial;dial;master 0 3;master 1 3;master 2 3;master 3 2");
        Check.due("cut(1): the fewest, not the least number", few.cut(1), 8);
        againstSlowCut("dial goes 51 moss 1;dial goes 90 moss 1;dial follows 1;half follows 2", 4);
        againstSlowCut("dial moss 1;back goes 2;twin goes 3;dial;master 0 1;master 1 2;master 2 0;master 3 2", 4);
        againstSlowCut("dial;half follows 0;dial follows 1;master 0 1", 3);
        againstSlowCut("proud;dial stopped;proud follows 1;master 0 1", 3);
        FollowedHours slow = Check.garden("dial goes 51 moss 1;dial goes 90 moss 1");
        Check.due("cut(50): two have to be stopped", slow.cut(50), 3);
        Check.due("cut(51): one halts alone", slow.cut(51), 2);
    }

    private static void againstSlowCut(String text, int dials) {
        FollowedHours x = Check.garden(text);
        for (int n = 0; n <= 100; n++) {
            Check.due("cut(" + n + ") of " + text, x.cut(n), slowCut(text, dials, n));
        }
    }

    /** The same question, asked by stop() and go() on a garden for each set. */
    private static int slowCut(String text, int dials, int n) {
        int best = -1;
        for (int set = 0; set < 1 << dials; set++) {
            FollowedHours x = Check.garden(text);
            for (int d = 0; d < dials; d++) {
                if ((set >> d & 1) == 1) {
                    x.stop(d, 1);
                }
            }
            x.go(n);
            boolean does = x.now(2) == (1 << dials) - 1;
            if (does && (best < 0 || Integer.bitCount(set) < Integer.bitCount(best))) {
                best = set;
            }
        }
        return best < 0 ? Check.NONE : best;
    }

    private static void frosts() {
        FollowedHours x = new FollowedHours();
        Check.due("frosts(0)", x.frosts(0), Check.BEYOND);
        Check.due("frosts(21)", x.frosts(21), Check.BEYOND);
        Check.due("frosts(20) of none", x.frosts(20), 0);
        Check.due("z of none", x.count(6), 1);
        Check.due("TICK", x.count(0), 20);
        Check.read(x, "dial;twin follows 0;dial follows 1 goes 5;dial stopped;dial");
        int z = 1;
        boolean[] stopped = {false, false, false, true, false};
        for (int n = 1; n <= 20; n++) {
            for (int tick = 0; tick < n; tick++) {
                for (int d = 0; d < 5; d++) {
                    z = z * 1103515245 + 12345;
                    stopped[d] |= (z >>> 8) % 16 == 0;
                }
            }
            int set = 0;
            for (int d = 0; d < 5; d++) {
                set |= stopped[d] ? 1 << d : 0;
            }
            Check.due("frosts(" + n + ")", x.frosts(n), Integer.bitCount(set));
            Check.due("set by frosts(" + n + ")", x.now(1), set);
            Check.due("z by frosts(" + n + ")", x.count(6), z);
        }
        Check.due("TICK", x.count(0), 230);
        frostIsAheadOfItsTick();
        frostsAtTheLastTick();
    }

    /** Looks for a z by which dial 0 is stopped at once: its follower is slowed in the same TICK. */
    private static void frostIsAheadOfItsTick() {
        FollowedHours x = Check.garden("dial goes 6;dial follows 0");
        int z = 0;
        while (((z * 1103515245 + 12345) >>> 8) % 16 != 0) {
            z++;
        }
        x.seed(z);
        x.frosts(1);
        Check.due("STOPPED by frost", x.of(0, 4), 1);
        Check.due("GOING of its follower", x.of(1, 3), 0);
        Check.due("HOUR of a STOPPED one", x.of(0, 1), 0);
    }

    private static void frostsAtTheLastTick() {
        FollowedHours x = new FollowedHours();
        x.dial(0);
        // STATE is not to be had within the 512 calls that the document speaks of
        for (int i = 0; i < 999; i++) {
            x.go(100);
        }
        x.go(80);
        Check.due("frosts(20) at 99980", x.frosts(20), Check.STATE);
        Check.due("z stays", x.count(6), 1);
        Check.due("frosts(21) at 99980", x.frosts(21), Check.BEYOND);
        x.frosts(19);
        Check.due("TICK", x.count(0), 99999);
    }

    private static void odds() {
        FollowedHours x = new FollowedHours();
        long above = 1;
        long below = 1;
        for (int n = 0; n <= 14; n++) {
            Check.due("odds above", x.odds(n, 0), above);
            Check.due("odds below", x.odds(n, 1), below);
            above *= 15;
            below *= 16;
        }
        int[][] wrong = {{-1, 0}, {15, 0}, {0, 2}, {0, -1}};
        for (int[] w : wrong) {
            Check.due("odds", x.odds(w[0], w[1]), Check.BEYOND);
        }
        Check.due("odds are findings too", x.status(0), 4);
    }

    private static void seed() {
        FollowedHours x = new FollowedHours();
        Check.due("seed(5)", x.seed(5), 1);
        Check.due("seed(-1000001)", x.seed(-1000001), 5);
        Check.due("count(6)", x.count(6), -1000001);
        Check.due("seed(MAX)", x.seed(Check.MAX), -1000001);
        Check.due("seed(MIN)", x.seed(Check.MIN), Check.MAX);
        Check.due("no finding", x.status(-1), 0);
    }
}
