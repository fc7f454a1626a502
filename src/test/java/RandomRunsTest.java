import java.lang.management.ManagementFactory;
import java.lang.reflect.InvocationTargetException;
import java.lang.reflect.Method;
import java.util.ArrayList;
import java.util.Arrays;
import java.util.Comparator;
import java.util.List;
import java.util.Random;

/** Runs of 512 random calls, the class against the model; and that calls make next to no objects. */
public final class RandomRunsTest {
    private static final int RUNS = 400;
    private static final int CALLS = 512;
    private static final int[] EDGES = {-1000001, -720, -719, -100, -99, -2, -1, 0, 1, 7, 9, 10, 14, 15, 20, 21, 40, 41,
        99, 100, 101, 119, 120, 200, 201, 255, 719, 720, 65535, Integer.MAX_VALUE, Integer.MIN_VALUE};
    private static final String[] WORDS = {"dial", "late", "twin", "back", "proud", "half", "later", "master"};

    private static final Random RANDOM = new Random(20261118);
    private static final List<Method> METHODS = new ArrayList<>();

    public static void main(String[] args) throws Exception {
        for (Method m : FollowedHours.class.getDeclaredMethods()) {
            if (java.lang.reflect.Modifier.isPublic(m.getModifiers())) {
                METHODS.add(m);
            }
        }
        METHODS.sort(Comparator.comparing(Method::getName));
        Check.due("methods of the face", METHODS.size(), 48);
        for (int run = 0; run < RUNS; run++) {
            oneRun(run);
        }
        callsMakeNothing();
        Check.end();
    }

    private static void oneRun(int run) throws Exception {
        FollowedHours x = new FollowedHours();
        Model model = new Model();
        int wild = run % 4 == 0 ? 20 : 2;
        for (int i = 0; i < CALLS; i++) {
            if (RANDOM.nextInt(25) == 0 || (i < 8 && RANDOM.nextInt(2) == 0)) {
                i += sayText(x, model, "run " + run);
                continue;
            }
            Method m = METHODS.get(RANDOM.nextInt(METHODS.size()));
            String name = m.getName();
            // the rarer of these, or every run would forget what it built
            if ((name.equals("undo") || name.equals("wipe")) && RANDOM.nextInt(4) != 0) {
                continue;
            }
            int[] a = new int[m.getParameterCount()];
            for (int p = 0; p < a.length; p++) {
                a[p] = RANDOM.nextInt(100) < wild ? EDGES[RANDOM.nextInt(EDGES.length)] : sensible(name, p);
            }
            both(x, model, m, a, "run " + run);
        }
        look(x, model, "run " + run);
    }

    private static void both(FollowedHours x, Model model, Method m, int[] a, String where) throws Exception {
        Object[] boxed = new Object[a.length];
        for (int p = 0; p < a.length; p++) {
            boxed[p] = a[p];
        }
        try {
            long got = ((Number) m.invoke(x, boxed)).longValue();
            Check.due(where + ": " + m.getName() + Arrays.toString(a), got, model.call(m.getName(), a));
        } catch (InvocationTargetException thrown) {
            System.out.println(where + ": " + m.getName() + Arrays.toString(a) + " threw " + thrown.getCause());
            Check.due("threw", 1, 0);
        }
    }

    /** An argument that is likely to be taken. */
    private static int sensible(String name, int p) {
        int dial = RANDOM.nextInt(11);
        int hour = RANDOM.nextInt(720);
        switch (name) {
            case "dial":
                return RANDOM.nextInt(7);
            case "of":
                return p == 0 ? dial : RANDOM.nextInt(7);
            case "change":
                return p == 0 ? dial : p == 1 ? RANDOM.nextInt(6) : RANDOM.nextInt(RANDOM.nextBoolean() ? 10 : 100);
            case "jog":
                return p == 0 ? dial : RANDOM.nextInt(1439) - 719;
            case "stop":
                return p == 0 ? dial : RANDOM.nextInt(2);
            case "ahead": case "going":
                return p == 0 ? dial : RANDOM.nextInt(201);
            case "shows":
                return p == 0 ? dial : hour;
            case "kindFor": case "halted":
                return p == 0 ? dial : 1 + RANDOM.nextInt(RANDOM.nextBoolean() ? 6 : 100);
            case "jogFor": case "masterFor":
                return p == 0 ? dial : p == 1 ? hour : RANDOM.nextInt(RANDOM.nextBoolean() ? 6 : 101);
            case "masters": case "kinds":
                return p == 0 ? RANDOM.nextInt(4) : dial;
            case "go": case "frosts":
                return 1 + RANDOM.nextInt(RANDOM.nextBoolean() ? 3 : 20);
            case "odds":
                return p == 0 ? RANDOM.nextInt(15) : RANDOM.nextInt(2);
            case "seed":
                return RANDOM.nextInt();
            case "feed":
                return p == 0 ? RANDOM.nextInt() : 1 + RANDOM.nextInt(4);
            case "sheet":
                return p == 0 ? RANDOM.nextInt(4) : p == 1 ? new int[] {0, 8, 16, 16, 32}[RANDOM.nextInt(5)] : RANDOM.nextInt(9);
            case "write":
                return p == 0 ? RANDOM.nextInt(4) : p == 1 ? RANDOM.nextInt(4)
                    : RANDOM.nextBoolean() ? -1 : RANDOM.nextInt(RANDOM.nextBoolean() ? 10 : 100000);
            case "copy":
                return p % 2 == 0 && p < 4 ? RANDOM.nextInt(4) : RANDOM.nextInt(4);
            case "load": case "judge":
                return RANDOM.nextInt(4);
            default:
                return RANDOM.nextInt(10);
        }
    }

    private static String text() {
        StringBuilder s = new StringBuilder();
        int items = 1 + RANDOM.nextInt(5);
        for (int i = 0; i < items; i++) {
            s.append(i == 0 ? "" : ";").append(item());
        }
        while (RANDOM.nextInt(4) == 0 && s.length() > 0) {
            int place = RANDOM.nextInt(s.length());
            if (RANDOM.nextBoolean()) {
                s.deleteCharAt(place);
            } else {
                s.insert(place, (char) (RANDOM.nextBoolean() ? ' ' : RANDOM.nextInt(256)));
            }
        }
        return s.length() > 120 ? s.substring(0, 120) : s.toString();
    }

    private static String item() {
        String word = WORDS[RANDOM.nextInt(WORDS.length)];
        if (word.equals("master")) {
            return word + " " + RANDOM.nextInt(8) + " " + RANDOM.nextInt(8);
        }
        StringBuilder s = new StringBuilder(word);
        s.append(part("shows", 721)).append(part("follows", 4));
        s.append(part(RANDOM.nextBoolean() ? "goes" : "goes -", 101)).append(part("moss", 11));
        return s.append(RANDOM.nextInt(6) == 0 ? " stopped" : "").toString();
    }

    private static String part(String word, int below) {
        if (RANDOM.nextInt(3) != 0) {
            return "";
        }
        return " " + word + " ".repeat(RANDOM.nextInt(2)) + RANDOM.nextInt(RANDOM.nextInt(30) == 0 ? below : Math.min(below, 1 + below / 2));
    }

    /** How many calls it took. */
    private static int sayText(FollowedHours x, Model model, String where) throws Exception {
        String text = text();
        Method feed = FollowedHours.class.getMethod("feed", int.class, int.class);
        both(x, model, FollowedHours.class.getMethod("wipe"), new int[0], where);
        int calls = 0;
        for (int i = 0; i < text.length(); calls++) {
            int n = Math.min(1 + RANDOM.nextInt(4), text.length() - i);
            int bytes = 0;
            for (int k = 0; k < n; k++) {
                bytes = bytes << 8 | text.charAt(i + k);
            }
            both(x, model, feed, new int[] {bytes, n}, where);
            i += n;
        }
        both(x, model, FollowedHours.class.getMethod("text"), new int[0], where + ", " + text);
        return calls;
    }

    private static void look(FollowedHours x, Model model, String where) throws Exception {
        Method of = FollowedHours.class.getMethod("of", int.class, int.class);
        for (int d = 0; d < 10; d++) {
            for (int what = 0; what < 7; what++) {
                both(x, model, of, new int[] {d, what}, where + " at its end");
            }
        }
        for (int what = 0; what < 8; what++) {
            both(x, model, FollowedHours.class.getMethod("count", int.class), new int[] {what}, where + " at its end");
        }
    }

    /** All calls of a run live in one room, so a call has to do with what its object has. */
    private static void callsMakeNothing() {
        com.sun.management.ThreadMXBean bean = (com.sun.management.ThreadMXBean) ManagementFactory.getThreadMXBean();
        FollowedHours x = Check.garden("dial;twin follows 0;back follows 1;half follows 2;dial;dial;late;later;proud follows 0;dial");
        x.sheet(0, 8, 40);
        manyCalls(x);
        long before = bean.getThreadAllocatedBytes(Thread.currentThread().getId());
        manyCalls(x);
        long made = bean.getThreadAllocatedBytes(Thread.currentThread().getId()) - before;
        Check.due("bytes made by calls (" + made + ") are few", made < 4096 ? 1 : 0, 1);
    }

    private static void manyCalls(FollowedHours x) {
        for (int i = 0; i < 20; i++) {
            x.image();
            x.cut(3);
            x.weakest(50);
            x.kindFor(2, 50);
            x.masters(0, 1);
            x.kinds(0, 1);
            x.masterFor(1, 5, 50);
            x.settles();
            x.meet(0, 1);
            x.right(100);
            x.frosts(2);
            x.go(3);
            x.greatest();
            x.rings();
            x.feed(0x6d617374, 4);
            x.feed(0x65722030, 4);
            x.feed(0x2031, 2);
            x.text();
            x.copy(0, 0, 0, 1, 39);
            x.load(0);
            x.judge(0);
            x.status(-1);
            x.undo();
        }
    }
}
