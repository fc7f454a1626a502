/** Promises 15 to 21: what will be. */
public final class AheadTest {
    public static void main(String[] args) {
        aheadAndGoing();
        shows();
        meet();
        halts();
        settles();
        kindFor();
        nothingChanges();
        Check.end();
    }

    private static void aheadAndGoing() {
        FollowedHours x = Check.garden("dial shows 700 goes 3;twin follows 0;half follows 0");
        Check.due("ahead(0, 0)", x.ahead(0, 0), 700);
        Check.due("ahead(0, 7)", x.ahead(0, 7), 1);
        Check.due("ahead(0, 200)", x.ahead(0, 200), 580);
        Check.due("going(1, 0)", x.going(1, 0), 1);
        Check.due("going(1, 1)", x.going(1, 1), 6);
        Check.due("going(2, 1)", x.going(2, 1), 1);
        Check.due("going(2, 2)", x.going(2, 2), 2);
        Check.due("ahead(2, 4)", x.ahead(2, 4), 6);
        Check.due("ahead(1, 200)", x.ahead(1, 200), 1200 % 720);
        int[][] wrong = {{-1, 0}, {3, 0}, {0, -1}, {0, 201}, {Check.MIN, 0}, {0, Check.MAX}};
        for (int[] w : wrong) {
            Check.due("ahead", x.ahead(w[0], w[1]), Check.BEYOND);
            Check.due("going", x.going(w[0], w[1]), Check.BEYOND);
        }
    }

    private static void shows() {
        FollowedHours x = Check.garden("dial shows 5;dial goes 0;dial goes - 4");
        Check.due("shows(0, 5)", x.shows(0, 5), 0);
        Check.due("shows(0, 205)", x.shows(0, 205), 200);
        Check.due("shows(0, 206)", x.shows(0, 206), Check.NONE);
        Check.due("shows(1, 1)", x.shows(1, 1), Check.NONE);
        Check.due("shows(2, 716)", x.shows(2, 716), 1);
        Check.due("shows(2, 0)", x.shows(2, 0), 0);
        Check.due("shows(0, 720)", x.shows(0, 720), Check.BEYOND);
        Check.due("shows(0, -1)", x.shows(0, -1), Check.BEYOND);
        Check.due("shows(3, 0)", x.shows(3, 0), Check.BEYOND);
        Check.due("shows(-1, 0)", x.shows(-1, 0), Check.BEYOND);
    }

    private static void meet() {
        FollowedHours x = Check.garden("dial;dial shows 200 goes 0;dial shows 201 goes 0;dial shows 718 goes 3");
        Check.due("meet(0, 1)", x.meet(0, 1), 200);
        Check.due("meet(1, 0)", x.meet(1, 0), 200);
        Check.due("meet(0, 2)", x.meet(0, 2), Check.NONE);
        Check.due("meet(0, 3)", x.meet(0, 3), 1);
        x.jog(3, 2);
        Check.due("meet(0, 3)", x.meet(0, 3), 0);
        Check.due("meet(0, 0)", x.meet(0, 0), Check.BEYOND);
        Check.due("meet(0, 4)", x.meet(0, 4), Check.BEYOND);
        Check.due("meet(4, 0)", x.meet(4, 0), Check.BEYOND);
        Check.due("meet(-1, 0)", x.meet(-1, 0), Check.BEYOND);
    }

    private static void halts() {
        FollowedHours x = Check.garden("dial goes 99 moss 1;dial;late follows 1 goes 5;dial goes 0;dial follows 0 goes 9");
        Check.due("halts(0)", x.halts(0), 99);
        Check.due("halts(1)", x.halts(1), Check.NONE);
        Check.due("halts(2)", x.halts(2), 1);
        Check.due("halts(3)", x.halts(3), 0);
        Check.due("halts(4)", x.halts(4), 100);
        FollowedHours slow = Check.garden("dial goes 99 moss 1;dial follows 0 goes 99;dial follows 0;dial follows 2;master 0 1");
        Check.read(slow, "dial follows 3;dial follows 4");
        Check.due("halts(0): a RING with MOSS", slow.halts(0), 197);
        Check.due("halts(4): the last that counts", slow.halts(4), 200);
        Check.due("halts(5): too late", slow.halts(5), Check.NONE);
        Check.due("halts(5)", x.halts(5), Check.BEYOND);
        Check.due("halts(-1)", x.halts(-1), Check.BEYOND);
    }

    private static void settles() {
        Check.due("settles() of none", new FollowedHours().settles(), 0);
        FollowedHours x = Check.garden("dial;dial follows 0;dial follows 1");
        Check.due("settles()", x.settles(), 0);
        x.change(0, 3, 2);
        Check.due("settles()", x.settles(), 2);
        x.change(2, 2, 0);
        Check.due("settles()", x.settles(), 1);
        Check.read(x, "half follows 0");
        Check.due("settles() with HALF", x.settles(), Check.NONE);
        FollowedHours moss = Check.garden("dial goes 99 moss 1");
        Check.due("settles() with MOSS", moss.settles(), 99);
        Check.read(moss, "dial follows 0 goes 50");
        Check.due("settles() with a follower", moss.settles(), 100);
        Check.read(moss, "dial follows 1 goes 50");
        Check.due("settles() too late", moss.settles(), Check.NONE);
    }

    private static void kindFor() {
        FollowedHours x = Check.garden("dial goes 3;dial follows 0;dial stopped");
        Check.due("kindFor(1, 1)", x.kindFor(1, 1), 2);
        Check.due("kindFor(1, 100)", x.kindFor(1, 100), 2);
        Check.due("kindFor(0, 5)", x.kindFor(0, 5), 0);
        Check.due("kindFor(2, 5)", x.kindFor(2, 5), 0);
        x.change(1, 2, 2);
        Check.due("kindFor behind a STOPPED one", x.kindFor(1, 1), 4);
        x.change(2, 3, 1);
        // TWIN and BACK go 2, PROUD 1, in the first TICK; later PROUD goes 3
        Check.due("kindFor(1, 1)", x.kindFor(1, 1), 2);
        Check.due("kindFor(1, 2)", x.kindFor(1, 2), 4);
        FollowedHours pair = Check.garden("dial;dial goes 0;master 0 1;master 1 0");
        // at TICK 1 HALF goes 1 by 1, as DIAL; LATE 0
        Check.due("kindFor in a RING", pair.kindFor(1, 4), 2);
        Check.due("kindFor(0, 0)", x.kindFor(0, 0), Check.BEYOND);
        Check.due("kindFor(0, 101)", x.kindFor(0, 101), Check.BEYOND);
        Check.due("kindFor(3, 1)", x.kindFor(3, 1), Check.BEYOND);
        Check.due("kindFor(-1, 1)", x.kindFor(-1, 1), Check.BEYOND);
        FollowedHours half = Check.garden("dial goes - 1;dial follows 0;master 0 1");
        // both at -1 and 1; at odd TICKS HALF turns -1 to 1; TWIN still goes farther
        Check.due("kindFor by signs left out", half.kindFor(0, 3), 2);
    }

    private static void nothingChanges() {
        FollowedHours x = Check.garden("dial goes 3;twin follows 0;half follows 1");
        x.ahead(0, 9);
        x.going(1, 9);
        x.shows(2, 300);
        x.meet(0, 1);
        x.halts(0);
        x.settles();
        x.kindFor(1, 3);
        x.jogFor(1, 3, 3);
        x.jogs(7);
        x.right(7);
        x.masterFor(0, 1, 50);
        x.halted(0, 8);
        x.weakest(9);
        x.cut(3);
        Check.due("TICK", x.now(0), 0);
        Check.due("HOURS", x.count(4), 0);
        Check.due("GOINGS", x.now(4), 5);
        Check.due("STOPPED", x.now(1), 0);
        Check.due("KIND", x.of(1, 0), 2);
        Check.due("MASTER", x.of(0, 2), 0);
    }
}
