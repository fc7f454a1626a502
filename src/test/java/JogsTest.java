/** Promises 22 to 25: jogs. */
public final class JogsTest {
    public static void main(String[] args) {
        jogFor();
        most();
        jogsAndRight();
        Check.end();
    }

    private static void jogFor() {
        FollowedHours x = Check.garden("dial shows 10 goes 2");
        Check.due("jogFor(0, 10, 0)", x.jogFor(0, 10, 0), 0);
        Check.due("jogFor(0, 9, 0)", x.jogFor(0, 9, 0), -1);
        Check.due("jogFor(0, 370, 0)", x.jogFor(0, 370, 0), 360);
        Check.due("jogFor(0, 371, 0)", x.jogFor(0, 371, 0), -359);
        Check.due("jogFor(0, 369, 0)", x.jogFor(0, 369, 0), 359);
        Check.due("jogFor(0, 719, 0)", x.jogFor(0, 719, 0), -11);
        Check.due("jogFor(0, 0, 200)", x.jogFor(0, 0, 200), 310);
        x.change(0, 1, 719);
        Check.due("jogFor(0, 0, 0)", x.jogFor(0, 0, 0), 1);
        Check.due("jogFor(0, 359, 0)", x.jogFor(0, 359, 0), 360);
        int[][] wrong = {{1, 0, 0}, {-1, 0, 0}, {0, 720, 0}, {0, -1, 0}, {0, 0, -1}, {0, 0, 201}};
        for (int[] w : wrong) {
            Check.due("jogFor", x.jogFor(w[0], w[1], w[2]), Check.BEYOND);
        }
    }

    private static void most() {
        FollowedHours x = new FollowedHours();
        Check.due("most()", x.most(), Check.NONE);
        Check.read(x, "dial shows 9;dial shows 5;dial shows 9;dial shows 5;dial shows 1");
        Check.due("most()", x.most(), 5);
        x.jog(1, 1);
        Check.due("most()", x.most(), 9);
        x.jog(0, 1);
        Check.due("most() of all others", x.most(), 1);
    }

    private static void jogsAndRight() {
        FollowedHours x = Check.garden("dial shows 9;dial shows 5;dial shows 9;dial shows 5 goes 5;dial shows 1");
        Check.due("jogs(0)", x.jogs(0), 3);
        Check.due("right(0)", x.right(0), 10);
        Check.due("jogs(1)", x.jogs(1), 2);
        Check.due("right(1)", x.right(1), 13);
        Check.due("right(2)", x.right(2), 5);
        Check.due("jogs(200)", x.jogs(200), 3);
        Check.due("right(200)", x.right(200), 5);
        Check.due("jogs(-1)", x.jogs(-1), Check.BEYOND);
        Check.due("jogs(201)", x.jogs(201), Check.BEYOND);
        Check.due("right(-1)", x.right(-1), Check.BEYOND);
        Check.due("right(201)", x.right(201), Check.BEYOND);
        FollowedHours late = Check.garden("dial shows 719;dial shows 719;dial shows 3;dial shows 3");
        Check.due("right(0): the least HOUR", late.right(0), 12);
        Check.due("right(1): the least HOUR then", late.right(1), 3);
        FollowedHours first = Check.garden("dial shows 3;dial shows 9");
        Check.due("most(): the first one's", first.most(), 3);
        Check.due("right(0): the first one", first.right(0), 1);
        Check.due("jogs(0)", first.jogs(0), 1);
        FollowedHours none = new FollowedHours();
        Check.due("jogs of none", none.jogs(5), 0);
        Check.due("right of none", none.right(5), 0);
    }
}
