/** Promises 9 to 14: the net. */
public final class NetTest {
    public static void main(String[] args) {
        ringWithTails();
        singles();
        oneGreatRing();
        wrong();
        Check.end();
    }

    /** 0 -> 1 -> 2 -> 3 -> 1, 4 -> 4, 5 -> 4, 6 -> 5. */
    private static void ringWithTails() {
        FollowedHours x = Check.garden("dial;dial;dial;dial;dial;dial follows 4;dial follows 5;master 0 1;master 1 2");
        Check.read(x, "master 2 3;master 3 1");
        int[] way = {14, 14, 14, 14, 16, 16, 48};
        int[] ring = {14, 14, 14, 14, 16, 16, 16};
        int[] before = {1, 0, 0, 0, 0, 1, 2};
        int[] under = {0, 15, 15, 15, 112, 64, 0};
        for (int d = 0; d < 7; d++) {
            Check.due("way(" + d + ")", x.way(d), way[d]);
            Check.due("ring(" + d + ")", x.ring(d), ring[d]);
            Check.due("before(" + d + ")", x.before(d), before[d]);
            Check.due("under(" + d + ")", x.under(d), under[d]);
        }
        Check.due("rings()", x.rings(), 2);
        Check.due("greatest()", x.greatest(), 1);
    }

    private static void singles() {
        FollowedHours x = Check.garden("dial;dial;dial");
        Check.due("rings()", x.rings(), 3);
        Check.due("greatest()", x.greatest(), 0);
        x.change(0, 2, 2);
        Check.due("greatest()", x.greatest(), 2);
        Check.due("under(0)", x.under(0), 0);
        Check.due("under(2)", x.under(2), 5);
        Check.due("rings()", x.rings(), 2);
    }

    private static void oneGreatRing() {
        FollowedHours x = new FollowedHours();
        for (int d = 0; d < 10; d++) {
            x.dial(0);
        }
        for (int d = 0; d < 9; d++) {
            x.change(d, 2, d + 1);
        }
        Check.due("a row: rings()", x.rings(), 1);
        Check.due("a row: before(0)", x.before(0), 9);
        Check.due("a row: ring(0)", x.ring(0), 512);
        Check.due("a row: way(0)", x.way(0), 1022);
        Check.due("a row: under(9)", x.under(9), 1023);
        x.change(9, 2, 0);
        Check.due("rings()", x.rings(), 1);
        Check.due("before(0)", x.before(0), 0);
        Check.due("ring(5)", x.ring(5), 1023);
        Check.due("way(5)", x.way(5), 1023);
        Check.due("greatest()", x.greatest(), 0);
    }

    private static void wrong() {
        FollowedHours x = new FollowedHours();
        Check.due("greatest()", x.greatest(), Check.NONE);
        Check.due("rings()", x.rings(), 0);
        x.dial(0);
        int[] beyond = {-1, 1, 10, Check.MIN, Check.MAX};
        for (int d : beyond) {
            Check.due("way", x.way(d), Check.BEYOND);
            Check.due("ring", x.ring(d), Check.BEYOND);
            Check.due("before", x.before(d), Check.BEYOND);
            Check.due("under", x.under(d), Check.BEYOND);
        }
        Check.due("status(0)", x.status(0), 20);
    }
}
