/** Promises 1 to 8: a new object, dials, ticks. */
public final class DialsTest {
    public static void main(String[] args) {
        newObject();
        newDials();
        ofAndChange();
        jogging();
        stopping();
        paceByKind();
        paceOfOwnMaster();
        mossAndLimits();
        allByWhatWasAhead();
        going();
        now();
        Check.end();
    }

    private static void newObject() {
        FollowedHours x = new FollowedHours();
        int[] counts = {0, 0, 0, 0, 0, 0, 1, 0};
        for (int what = 0; what < counts.length; what++) {
            Check.due("new count(" + what + ")", x.count(what), counts[what]);
        }
        Check.due("new status(-1)", x.status(-1), 0);
        Check.due("new undo()", x.undo(), Check.NONE);
        for (int s = 0; s < 4; s++) {
            Check.due("new load", x.load(s), Check.MISSING);
        }
        Check.due("new as", x.as(0, 0), Check.MISSING);
    }

    private static void newDials() {
        FollowedHours x = new FollowedHours();
        Check.due("dial(-1)", x.dial(-1), Check.BEYOND);
        Check.due("dial(7)", x.dial(7), Check.BEYOND);
        Check.due("dial(MIN)", x.dial(Check.MIN), Check.BEYOND);
        for (int d = 0; d < 10; d++) {
            int kind = d % 7;
            Check.due("dial", x.dial(kind), d);
            int[] want = {kind, 0, d, 1, 0, 0, 1};
            for (int what = 0; what < want.length; what++) {
                Check.due("of(" + d + ", " + what + ")", x.of(d, what), want[what]);
            }
        }
        Check.due("11th dial of no kind", x.dial(7), Check.BEYOND);
        Check.due("11th dial", x.dial(0), Check.FULL);
        Check.due("dials", x.count(1), 10);
    }

    private static void ofAndChange() {
        FollowedHours x = new FollowedHours();
        x.dial(0);
        x.dial(0);
        int[][] wrong = {{-1, 0}, {2, 0}, {0, -1}, {0, 7}, {Check.MAX, 0}, {0, Check.MIN}};
        for (int[] w : wrong) {
            Check.due("of", x.of(w[0], w[1]), Check.BEYOND);
        }
        int[] whats = {0, 1, 2, 3, 5};
        int[] least = {0, 0, 0, -99, 0};
        int[] most = {6, 719, 1, 99, 9};
        int[] was = {0, 0, 1, 1, 0};
        for (int i = 0; i < whats.length; i++) {
            int what = whats[i];
            Check.due("change below", x.change(1, what, least[i] - 1), Check.BEYOND);
            Check.due("change above", x.change(1, what, most[i] + 1), Check.BEYOND);
            Check.due("change untouched", x.of(1, what), was[i]);
            Check.due("change most", x.change(1, what, most[i]), was[i]);
            Check.due("change least", x.change(1, what, least[i]), most[i]);
            Check.due("changed", x.of(1, what), least[i]);
        }
        Check.due("change STOPPED", x.change(1, 4, 1), Check.BEYOND);
        Check.due("change PACE", x.change(1, 6, 1), Check.BEYOND);
        Check.due("change what -1", x.change(1, -1, 1), Check.BEYOND);
        Check.due("change dial 2", x.change(2, 1, 1), Check.BEYOND);
        Check.due("change dial -1", x.change(-1, 1, 1), Check.BEYOND);
        Check.due("other one's SHOWS", x.of(0, 1), 0);
        x.stop(0, 1);
        Check.due("GOING of a STOPPED one", x.change(0, 3, 7), 0);
        Check.due("GOING of a STOPPED one", x.of(0, 3), 7);
        Check.due("still STOPPED", x.of(0, 4), 1);
    }

    private static void jogging() {
        FollowedHours x = new FollowedHours();
        x.dial(0);
        Check.due("jog(0, -1)", x.jog(0, -1), 719);
        Check.due("jog(0, 1)", x.jog(0, 1), 0);
        Check.due("jog(0, 719)", x.jog(0, 719), 719);
        Check.due("jog(0, 719)", x.jog(0, 719), 718);
        Check.due("jog(0, -719)", x.jog(0, -719), 719);
        Check.due("jog(0, 0)", x.jog(0, 0), 719);
        Check.due("jog(0, 720)", x.jog(0, 720), Check.BEYOND);
        Check.due("jog(0, -720)", x.jog(0, -720), Check.BEYOND);
        Check.due("jog(1, 0)", x.jog(1, 0), Check.BEYOND);
        Check.due("jog(-1, 0)", x.jog(-1, 0), Check.BEYOND);
        Check.due("GOING of a jogged one", x.of(0, 3), 1);
    }

    private static void stopping() {
        FollowedHours x = new FollowedHours();
        x.dial(0);
        x.change(0, 3, 5);
        Check.due("start a going one", x.stop(0, 0), 0);
        Check.due("GOING untouched", x.of(0, 3), 5);
        Check.due("stop", x.stop(0, 1), 1);
        Check.due("GOING", x.of(0, 3), 0);
        x.change(0, 3, 4);
        Check.due("stop again", x.stop(0, 1), 0);
        Check.due("GOING untouched", x.of(0, 3), 4);
        Check.due("start", x.stop(0, 0), 1);
        Check.due("STOPPED no more", x.of(0, 4), 0);
        Check.due("GOING", x.of(0, 3), 1);
        Check.due("stop(0, 2)", x.stop(0, 2), Check.BEYOND);
        Check.due("stop(0, -1)", x.stop(0, -1), Check.BEYOND);
        Check.due("stop(1, 1)", x.stop(1, 1), Check.BEYOND);
        Check.due("stop(-1, 1)", x.stop(-1, 1), Check.BEYOND);
    }

    private static void paceByKind() {
        int[] goings = {-99, -7, -2, -1, 0, 1, 2, 3, 7, 99};
        // rows by KIND at an even TICK, MASTER not STOPPED
        int[][] even = {
            {-99, -7, -2, -1, 0, 1, 2, 3, 7, 99},
            {-99, -7, -2, -1, 0, 0, 1, 2, 6, 98},
            {-99, -14, -4, -2, 0, 2, 4, 6, 14, 99},
            {99, 14, 4, 2, 0, -2, -4, -6, -14, -99},
            {99, 14, 4, 2, 0, -2, -4, -6, -14, -99},
            {-49, -3, -1, 0, 0, 0, 1, 1, 3, 49},
            {-99, -7, -2, -1, 0, 0, 0, 1, 5, 97}};
        int[] halfOdd = {-48, -2, 0, 1, 0, 1, 2, 2, 4, 50};
        int[] proudStopped = {99, 17, 7, 5, 3, 1, -1, -3, -11, -99};
        FollowedHours x = new FollowedHours();
        x.dial(0);
        x.dial(0);
        x.change(1, 2, 0);
        for (int i = 0; i < goings.length; i++) {
            x.change(0, 3, goings[i]);
            for (int kind = 0; kind < 7; kind++) {
                x.change(1, 0, kind);
                Check.due("PACE of " + kind + " by " + goings[i], x.of(1, 6), even[kind][i]);
            }
        }
        x.stop(0, 1);
        x.go(1);
        for (int i = 0; i < goings.length; i++) {
            x.change(0, 3, goings[i]);
            x.change(1, 0, 5);
            Check.due("PACE of HALF at an odd TICK by " + goings[i], x.of(1, 6), halfOdd[i]);
            x.change(1, 0, 4);
            Check.due("PACE of PROUD by a STOPPED " + goings[i], x.of(1, 6), proudStopped[i]);
            x.change(1, 0, 3);
            Check.due("PACE of BACK by a STOPPED " + goings[i], x.of(1, 6), even[3][i]);
        }
        x.stop(1, 1);
        x.change(0, 3, 4);
        Check.due("PACE of a STOPPED one", x.of(1, 6), -8);
        x.go(1);
        Check.due("GOING of a STOPPED one", x.of(1, 3), 0);
    }

    private static void paceOfOwnMaster() {
        for (int kind = 0; kind < 7; kind++) {
            FollowedHours x = new FollowedHours();
            x.dial(kind);
            x.change(0, 3, -5);
            Check.due("own PACE of " + kind, x.of(0, 6), -5);
            x.change(0, 5, 2);
            Check.due("own PACE with MOSS of " + kind, x.of(0, 6), -3);
            x.go(3);
            Check.due("own GOING with MOSS of " + kind, x.of(0, 3), 0);
            Check.due("own HOUR with MOSS of " + kind, x.of(0, 1), 716);
            x.change(0, 5, 0);
            x.stop(0, 1);
            x.change(0, 3, 6);
            Check.due("own PACE, STOPPED, of " + kind, x.of(0, 6), 6);
            x.go(1);
            Check.due("own GOING, STOPPED, of " + kind, x.of(0, 3), 0);
        }
    }

    private static void mossAndLimits() {
        FollowedHours x = Check.garden("dial goes 52;twin follows 0 moss 9;back follows 0 moss 9");
        Check.due("MOSS ahead of the limit", x.of(1, 6), 95);
        Check.due("MOSS ahead of the limit, back", x.of(2, 6), -95);
        x.change(0, 3, 54);
        Check.due("just at the limit", x.of(1, 6), 99);
        x.change(0, 3, 55);
        Check.due("beyond the limit", x.of(1, 6), 99);
        Check.due("beyond the limit, back", x.of(2, 6), -99);
        x.change(0, 3, 4);
        Check.due("past 0", x.of(1, 6), 0);
        Check.due("past 0, back", x.of(2, 6), 0);
        x.change(0, 3, 5);
        Check.due("near 0", x.of(1, 6), 1);
        Check.due("near 0, back", x.of(2, 6), -1);
    }

    private static void allByWhatWasAhead() {
        FollowedHours x = Check.garden("dial goes 1;dial goes 2;dial goes 4");
        x.change(0, 2, 1);
        x.change(1, 2, 2);
        x.change(2, 2, 0);
        Check.due("go(1)", x.go(1), 1);
        Check.due("GOING 0", x.of(0, 3), 2);
        Check.due("GOING 1", x.of(1, 3), 4);
        Check.due("GOING 2", x.of(2, 3), 1);
        Check.due("HOUR 0", x.of(0, 1), 2);
        Check.due("HOUR 2", x.of(2, 1), 1);
        Check.due("go(99)", x.go(99), 100);
        Check.due("GOING 0", x.of(0, 3), 2);
        Check.due("HOUR 0", x.of(0, 1), 33 * 7 + 2);
        FollowedHours back = Check.garden("dial shows 1 goes - 3");
        back.go(1);
        Check.due("round below 0", back.of(0, 1), 718);
    }

    private static void going() {
        FollowedHours x = new FollowedHours();
        Check.due("go(0)", x.go(0), Check.BEYOND);
        Check.due("go(-1)", x.go(-1), Check.BEYOND);
        Check.due("go(101)", x.go(101), Check.BEYOND);
        Check.due("go(100)", x.go(100), 100);
        // STATE is not to be had within the 512 calls that the document speaks of
        for (int i = 0; i < 998; i++) {
            x.go(100);
        }
        Check.due("go(100) to 100000", x.go(100), Check.STATE);
        Check.due("go(99)", x.go(99), 99999);
        Check.due("go(1) at the last", x.go(1), Check.STATE);
        Check.due("go(101) at the last", x.go(101), Check.BEYOND);
        Check.due("TICK", x.now(0), 99999);
    }

    private static void now() {
        FollowedHours x = Check.garden("dial goes 0;dial stopped;late follows 0 goes - 4;dial goes 9");
        Check.due("now(0)", x.now(0), 0);
        Check.due("now(1)", x.now(1), 2);
        Check.due("now(2)", x.now(2), 3);
        Check.due("now(3)", x.now(3), 11);
        Check.due("now(4)", x.now(4), 5);
        Check.due("now(5)", x.now(5), 1);
        x.go(1);
        Check.due("now(0)", x.now(0), 1);
        Check.due("now(2)", x.now(2), 7);
        Check.due("now(4)", x.now(4), 9);
        Check.due("now(5)", x.now(5), 0);
        Check.due("now(-1)", x.now(-1), Check.BEYOND);
        Check.due("now(6)", x.now(6), Check.BEYOND);
        FollowedHours none = new FollowedHours();
        int[] want = {0, 0, 0, 0, 0, 1};
        for (int what = 0; what < want.length; what++) {
            Check.due("empty now(" + what + ")", none.now(what), want[what]);
        }
    }
}
