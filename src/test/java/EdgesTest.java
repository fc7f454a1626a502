import java.lang.reflect.Method;
import java.nio.charset.StandardCharsets;
import java.nio.file.Files;
import java.nio.file.Path;
import java.util.ArrayList;
import java.util.Arrays;
import java.util.HashMap;
import java.util.List;
import java.util.Map;
import java.util.Set;
import java.util.TreeSet;
import java.util.regex.Matcher;
import java.util.regex.Pattern;

/**
 * The rows of src/test/edges.txt, each a boundary case with an object of its own.
 *
 * A call is a method's name and its arguments (MIN and MAX among them); "= v" tells what is due, "*k" that it
 * is made k times. Beside the face there are: read TEXT (feed() and text()), bytes TEXT (feed() alone), lay
 * (sheet() and write(): s, bits, numbers) and @new (from here on another object). In a TEXT ~ is a blank.
 *
 * Behind each call that answers a finding, or that only asks, the object is held against one that did
 * without that call: nothing but status() may differ, and that by the finding alone.
 */
public final class EdgesTest {
    private static final String ROWS = "src/test/edges.txt";
    private static final String DOC = "../shared/DOC.md";
    private static final int PROMISES = 49;
    private static final String[] FINDINGS = {"BEYOND", "FULL", "KIND", "NONE", "STATE", "MISSING", "SIZE"};
    private static final Set<String> ASKING = Set.of("of", "now", "way", "ring", "rings", "before", "under", "greatest",
        "ahead", "going", "shows", "meet", "halts", "settles", "kindFor", "jogFor", "most", "jogs", "right", "masters",
        "kinds", "masterFor", "halted", "weakest", "cut", "odds", "as", "judge", "count", "status");
    private static final Map<String, Method> METHODS = new HashMap<>();

    private record Call(String text, String name, int times, String due) {
    }

    private record Row(String heading, String name, String garden, List<Call> calls) {
    }

    public static void main(String[] args) throws Exception {
        for (Method m : FollowedHours.class.getDeclaredMethods()) {
            METHODS.put(m.getName(), m);
        }
        List<Row> rows = rows();
        for (Row row : rows) {
            answersAreDue(row);
            nothingElseChanges(row);
        }
        eachPromiseHasRows(rows);
        Check.end();
    }

    // ---- rows

    private static List<Row> rows() throws Exception {
        List<Row> rows = new ArrayList<>();
        String heading = "";
        for (String line : Files.readAllLines(Path.of(ROWS))) {
            if (line.startsWith("# ")) {
                heading = line.substring(2);
            } else if (!line.isBlank() && !line.startsWith("//")) {
                String[] parts = line.split("\\|", -1);
                if (parts.length != 3) {
                    throw new IllegalStateException("not a row: " + line);
                }
                List<Call> calls = new ArrayList<>();
                for (String call : parts[2].split(",")) {
                    calls.add(callOf(call.strip()));
                }
                rows.add(new Row(heading, parts[0].strip(), parts[1].strip(), calls));
            }
        }
        return rows;
    }

    private static Call callOf(String text) {
        Matcher m = Pattern.compile("(.*?)(?: \\*(\\d+))?(?: = (\\S+))?").matcher(text);
        if (!m.matches()) {
            throw new IllegalStateException("not a call: " + text);
        }
        String name = m.group(1).split(" ")[0];
        return new Call(m.group(1), name, m.group(2) == null ? 1 : Integer.parseInt(m.group(2)), m.group(3));
    }

    private static long number(String text) {
        int finding = Arrays.asList(FINDINGS).indexOf(text);
        return finding >= 0 ? Check.BEYOND - finding
            : text.equals("MIN") ? Check.MIN : text.equals("MAX") ? Check.MAX : Long.parseLong(text);
    }

    // ---- gardens

    private static FollowedHours start(String garden) {
        switch (garden) {
            case "":
                return new FollowedHours();
            case "@nine":
                return dials(9);
            case "@ten":
                return dials(10);
            case "@row":
                return row();
            case "@great":
                return great();
            case "@rich":
                return rich();
            case "@full":
                return full();
            default:
                return Check.garden(garden);
        }
    }

    private static FollowedHours dials(int n) {
        FollowedHours x = new FollowedHours();
        for (int d = 0; d < n; d++) {
            x.dial(0);
        }
        return x;
    }

    /** Ten, each of which follows the one ahead of it. */
    private static FollowedHours row() {
        FollowedHours x = dials(10);
        for (int d = 1; d < 10; d++) {
            x.change(d, 2, d - 1);
        }
        return x;
    }

    /** Ten in one RING. */
    private static FollowedHours great() {
        FollowedHours x = dials(10);
        for (int d = 0; d < 10; d++) {
            x.change(d, 2, (d + 1) % 10);
        }
        return x;
    }

    /** Five DIALS, and something of all else; sheet 3 is MISSING, SPOT 5 holds nothing. */
    private static FollowedHours rich() {
        FollowedHours x = Check.garden("dial shows 10 goes 3;twin shows 20 follows 0 moss 2;back follows 1 stopped");
        Check.read(x, "half follows 2 goes - 5;later follows 3");
        x.hold(0, 1);
        x.hold(9, 4);
        x.seed(99);
        x.go(3);
        x.image();
        x.frosts(2);
        x.jog(0, 5);
        Check.lay(x, 0, 16, 5, 720, -1);
        Check.lay(x, 1, 8, 1, 0, 0);
        Check.lay(x, 2, 32, 70000, 7);
        Check.feed(x, "master 0 1".getBytes(StandardCharsets.ISO_8859_1));
        return x;
    }

    /** No room for a DIAL more, nor for a byte. */
    private static FollowedHours full() {
        FollowedHours x = row();
        x.image();
        x.go(7);
        Check.lay(x, 1, 16, 100, 200);
        x.hold(3, 9);
        x.feed(0x6d617374, 4);
        x.feed(0x65722039, 4);
        x.feed(0x20372020, 4);
        for (int i = 3; i < 30; i++) {
            x.feed(0x20202020, 4);
        }
        return x;
    }

    // ---- calls

    private static void answersAreDue(Row row) throws Exception {
        FollowedHours x = start(row.garden);
        for (Call call : row.calls) {
            x = call.name.equals("@new") ? new FollowedHours() : x;
            long got = make(x, call);
            if (call.due != null) {
                Check.due(row.heading + ", " + row.name + ": " + call.text, got, number(call.due));
            }
        }
    }

    private static long make(FollowedHours x, Call call) throws Exception {
        long got = 0;
        for (int i = 0; i < call.times; i++) {
            got = makeOnce(x, call);
        }
        return got;
    }

    private static long makeOnce(FollowedHours x, Call call) throws Exception {
        String rest = call.text.substring(call.name.length()).strip();
        switch (call.name) {
            case "@new":
                return 0;
            case "read":
                return Check.read(x, rest.replace('~', ' '));
            case "bytes":
                Check.feed(x, rest.replace('~', ' ').getBytes(StandardCharsets.ISO_8859_1));
                return x.count(5);
            default:
                int[] numbers = rest.isEmpty() ? new int[0]
                    : Arrays.stream(rest.split(" ")).mapToInt(text -> (int) number(text)).toArray();
                if (call.name.equals("lay")) {
                    Check.lay(x, numbers[0], numbers[1], Arrays.copyOfRange(numbers, 2, numbers.length));
                    return numbers.length - 2;
                }
                Object[] boxed = Arrays.stream(numbers).boxed().toArray();
                return ((Number) METHODS.get(call.name).invoke(x, boxed)).longValue();
        }
    }

    // ---- what may not change

    private static void nothingElseChanges(Row row) throws Exception {
        for (int i = 0; i < row.calls.size(); i++) {
            Call call = row.calls.get(i);
            boolean mayTellAnyInt = call.name.equals("seed") || call.text.equals("count 6");
            long got = mayTellAnyInt ? 0 : make(replay(row, i), call);
            boolean isFinding = got < -1000000;
            if (isFinding || ASKING.contains(call.name)) {
                String where = row.heading + ", " + row.name + ": " + call.text + " changed ";
                sameBut(where, row, i);
                statusGrew(where, row, i, isFinding ? Check.BEYOND - got : -1);
            }
        }
    }

    /** An object for which the first calls of a row were made. */
    private static FollowedHours replay(Row row, int calls) throws Exception {
        FollowedHours x = start(row.garden);
        for (Call call : row.calls.subList(0, calls)) {
            x = call.name.equals("@new") ? new FollowedHours() : x;
            make(x, call);
        }
        return x;
    }

    private static void sameBut(String where, Row row, int i) throws Exception {
        for (int probe = 0; probe < 7; probe++) {
            List<Long> with = probed(replay(row, i + 1), probe);
            List<Long> without = probed(replay(row, i), probe);
            Check.due(where + "(probe " + probe + ": " + without + " to " + with + ")", with.equals(without) ? 1 : 0, 1);
        }
    }

    private static void statusGrew(String where, Row row, int i, long finding) throws Exception {
        FollowedHours with = replay(row, i + 1);
        FollowedHours without = replay(row, i);
        for (int which = -1; which < FINDINGS.length; which++) {
            // a repeated call tells its finding each time but perhaps not the first ones
            if (row.calls.get(i).times == 1) {
                int more = finding >= 0 && (which == -1 || which == finding) ? 1 : 0;
                Check.due(where + "status " + which, with.status(which), without.status(which) + more);
            }
        }
    }

    /** What an object tells of itself; it is spoilt by it, so that each probe has an object of its own. */
    private static List<Long> probed(FollowedHours x, int probe) {
        List<Long> told = new ArrayList<>();
        switch (probe) {
            case 0:
                break;
            case 1:
                told.add((long) x.undo());
                break;
            case 2:
                told.add((long) x.text());
                break;
            default:
                probeSheet(x, probe - 3, told);
                return told;
        }
        for (int what = 0; what < 8; what++) {
            told.add((long) x.count(what));
        }
        for (int d = 0; d < 10; d++) {
            for (int what = 0; what < 7; what++) {
                told.add((long) x.of(d, what));
            }
            told.add((long) x.as(d, 0));
        }
        return told;
    }

    /** Its numbers are told one by one, by a sheet of as many bits: as SHOWN, as -1, or as neither. */
    private static void probeSheet(FollowedHours x, int s, List<Long> told) {
        int other = (s + 1) % 4;
        x.dial(0);
        for (int bits = 8; bits <= 32; bits *= 2) {
            x.sheet(other, bits, 1);
            for (int i = 0; i < 41; i++) {
                long came = x.copy(s, i, other, 0, 1);
                told.add(came);
                if (came < 0) {
                    break;
                }
                boolean isHour = x.load(other) == 1;
                told.add((long) (isHour ? x.of(0, 1) : -1 - Integer.bitCount(x.masters(other, 0))));
            }
        }
    }

    // ---- that the rows are all there

    /** Each promise has rows, and one that tells each finding that the document names for it. */
    private static void eachPromiseHasRows(List<Row> rows) throws Exception {
        String[] sections = Files.readString(Path.of(DOC)).split("(?m)^## ");
        int promises = 0;
        for (String section : sections) {
            Matcher m = Pattern.compile("(Promise \\d+): .*").matcher(section.lines().findFirst().orElse(""));
            if (m.matches()) {
                promises++;
                Set<String> told = new TreeSet<>();
                int many = 0;
                for (Row row : rows) {
                    if (row.heading.equals(m.group())) {
                        many++;
                        row.calls.forEach(call -> told.add(String.valueOf(call.due)));
                    }
                }
                Check.due("rows of " + m.group() + " (" + many + ") are some", many > 1 ? 1 : 0, 1);
                for (String finding : FINDINGS) {
                    boolean isNamed = Pattern.compile("\\b" + finding + "[.:]").matcher(section).find();
                    Check.due(m.group() + " has rows of " + finding, !isNamed || told.contains(finding) ? 1 : 0, 1);
                }
            }
        }
        Check.due("promises", promises, PROMISES);
    }
}
