import java.nio.charset.StandardCharsets;

/** What every test here uses: rows of a call, its answer and the due one, and the sum at the end. */
final class Check {
    static final int BEYOND = -1000001;
    static final int FULL = -1000002;
    static final int KIND = -1000003;
    static final int NONE = -1000004;
    static final int STATE = -1000005;
    static final int MISSING = -1000006;
    static final int SIZE = -1000007;

    static final int MIN = Integer.MIN_VALUE;
    static final int MAX = Integer.MAX_VALUE;

    private static int passed = 0;
    private static int failed = 0;

    private Check() {
    }

    static void due(String call, long got, long want) {
        if (got == want) {
            passed++;
        } else {
            failed++;
            System.out.println(call + " answered " + got + ", due is " + want);
        }
    }

    /** Ends the test; the last line is read by .ci/run. */
    static void end() {
        System.out.println(passed + " passed, " + failed + " failed");
        System.exit(failed == 0 && passed > 0 ? 0 : 1);
    }

    static void feed(FollowedHours x, byte[] bytes) {
        for (byte b : bytes) {
            x.feed(b, 1);
        }
    }

    /** Feeds a text and has it read. */
    static int read(FollowedHours x, String text) {
        feed(x, text.getBytes(StandardCharsets.ISO_8859_1));
        return x.text();
    }

    static FollowedHours garden(String text) {
        FollowedHours x = new FollowedHours();
        if (read(x, text) < 1) {
            failed++;
            System.out.println("no garden could be made of: " + text);
        }
        return x;
    }

    static void lay(FollowedHours x, int s, int bits, int... numbers) {
        due("sheet", x.sheet(s, bits, numbers.length), numbers.length);
        for (int i = 0; i < numbers.length; i++) {
            due("write", x.write(s, i, numbers[i]), 1);
        }
    }
}
