/** Promises 45 to 49: images, count, status. */
public final class ImagesTest {
    public static void main(String[] args) {
        keepAndUndo();
        tear();
        count();
        status();
        Check.end();
    }

    private static void keepAndUndo() {
        FollowedHours x = Check.garden("dial shows 4 goes 2;twin follows 0 moss 1;dial stopped");
        x.hold(2, 1);
        x.seed(77);
        x.go(3);
        Check.due("image()", x.image(), 1);
        int[][] was = new int[3][7];
        for (int d = 0; d < 3; d++) {
            for (int what = 0; what < 7; what++) {
                was[d][what] = x.of(d, what);
            }
        }
        for (int time = 0; time < 2; time++) {
            spoil(x);
            Check.due("undo()", x.undo(), 3);
            Check.due("TICK", x.count(0), 3);
            Check.due("DIALS", x.count(1), 3);
            Check.due("z", x.count(6), 77);
            Check.due("SPOTS", x.count(7), 1);
            Check.due("as(2, 2)", x.as(2, 2), 1);
            for (int d = 0; d < 3; d++) {
                for (int what = 0; what < 7; what++) {
                    Check.due("of(" + d + ", " + what + ")", x.of(d, what), was[d][what]);
                }
            }
            Check.due("THE TAPE isn't taken back", x.count(5), 2 * (time + 1));
            Check.due("SHEETS aren't taken back", x.write(1, 4, 0), 1);
        }
        x.go(2);
        x.image();
        x.go(9);
        Check.due("undo() to the latest", x.undo(), 5);
    }

    private static void spoil(FollowedHours x) {
        x.dial(6);
        x.go(5);
        x.stop(2, 0);
        x.stop(0, 1);
        x.change(1, 0, 5);
        x.change(0, 2, 1);
        x.change(1, 5, 8);
        x.hold(3, 3);
        x.hold(2, -1);
        x.frosts(4);
        x.feed(0x2020, 2);
        x.sheet(1, 8, 5);
    }

    private static void tear() {
        FollowedHours x = new FollowedHours();
        Check.due("tear()", x.tear(), 0);
        Check.due("undo()", x.undo(), Check.NONE);
        x.image();
        Check.due("tear()", x.tear(), 1);
        Check.due("tear()", x.tear(), 0);
        x.go(1);
        Check.due("undo()", x.undo(), Check.NONE);
        Check.due("TICK", x.now(0), 1);
        x.image();
        Check.due("undo()", x.undo(), 1);
    }

    private static void count() {
        FollowedHours x = Check.garden("dial shows 700;dial shows 719 stopped;dial follows 0;dial stopped;master 3 1");
        x.hold(0, 3);
        x.hold(1, 3);
        x.feed(0, 3);
        x.go(1);
        int[] want = {1, 4, 2, 2, 701 + 719 + 1, 3, 1, 2};
        for (int what = 0; what < want.length; what++) {
            Check.due("count(" + what + ")", x.count(what), want[what]);
        }
        Check.due("count(-1)", x.count(-1), Check.BEYOND);
        Check.due("count(8)", x.count(8), Check.BEYOND);
    }

    private static void status() {
        FollowedHours x = new FollowedHours();
        x.image();
        Check.due("BEYOND", x.dial(7), Check.BEYOND);
        Check.due("BEYOND", x.way(0), Check.BEYOND);
        for (int d = 0; d < 10; d++) {
            x.dial(0);
        }
        Check.due("FULL", x.dial(0), Check.FULL);
        x.hold(0, 0);
        Check.due("KIND", x.as(0, 1), Check.KIND);
        Check.due("NONE", x.shows(0, 500), Check.NONE);
        Check.due("MISSING", x.judge(0), Check.MISSING);
        Check.due("SIZE", x.sheet(0, 8, -1), Check.SIZE);
        x.undo();
        Check.due("NONE", x.greatest(), Check.NONE);
        int[] want = {2, 1, 1, 2, 0, 1, 1};
        for (int which = 0; which < want.length; which++) {
            Check.due("status(" + which + ")", x.status(which), want[which]);
        }
        Check.due("status(-1)", x.status(-1), 8);
        Check.due("status(7)", x.status(7), Check.BEYOND);
        Check.due("status(-2)", x.status(-2), Check.BEYOND);
        Check.due("status(0)", x.status(0), 4);
        Check.due("status(-1)", x.status(-1), 10);
        Check.due("a FAULT is no finding", Check.read(x, "x"), -1);
        Check.due("status(-1)", x.status(-1), 10);
        // STATE is not to be had within the 512 calls that the document speaks of
        for (int i = 0; i < 999; i++) {
            x.go(100);
        }
        Check.due("STATE", x.go(100), Check.STATE);
        Check.due("status(4)", x.status(4), 1);
    }
}
