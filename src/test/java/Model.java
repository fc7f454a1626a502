import java.math.BigInteger;
import java.util.ArrayList;
import java.util.Arrays;
import java.util.HashMap;
import java.util.LinkedHashSet;
import java.util.List;
import java.util.Map;
import java.util.Set;
import java.util.TreeMap;
import java.util.function.Consumer;
import java.util.function.ToIntFunction;
import java.util.regex.Matcher;
import java.util.regex.Pattern;

/** The document once more, written apart from the class and by other means, to be held against it. */
final class Model {
    private static final class Finding extends RuntimeException {
        private static final long serialVersionUID = 1L;
        final int code;

        Finding(int code) {
            super(null, null, false, false);
            this.code = code;
        }
    }

    private static final class Dial {
        int kind;
        int hour;
        int master;
        int going = 1;
        boolean stopped;
        int moss;

        Dial(int kind, int master) {
            this.kind = kind;
            this.master = master;
        }

        Dial(Dial d) {
            kind = d.kind;
            hour = d.hour;
            master = d.master;
            going = d.going;
            stopped = d.stopped;
            moss = d.moss;
        }

        void stopNow() {
            if (!stopped) {
                stopped = true;
                going = 0;
            }
        }
    }

    private static final class World {
        final List<Dial> dials = new ArrayList<>();
        final Map<Integer, Integer> spots = new HashMap<>();
        int tick;
        int z = 1;

        World() {
        }

        World(World w) {
            for (Dial d : w.dials) {
                dials.add(new Dial(d));
            }
            spots.putAll(w.spots);
            tick = w.tick;
            z = w.z;
        }

        int pace(int n) {
            Dial d = dials.get(n);
            Dial m = dials.get(d.master);
            int g = m.going;
            int p = g;
            if (d.master != n) {
                if (d.kind == 1 || d.kind == 6) {
                    for (int i = 0; i < (d.kind == 6 ? 2 : 1); i++) {
                        p = p > 0 ? p - 1 : p;
                    }
                } else if (d.kind == 5) {
                    p = (int) (g / 2.0);
                    if (tick % 2 != 0 && g != 0) {
                        p += 1;
                    }
                } else if (d.kind >= 2 && d.kind <= 4) {
                    p = g + g;
                    if (d.kind >= 3) {
                        p = 0 - p;
                    }
                    if (d.kind == 4 && m.stopped) {
                        p += 3;
                    }
                }
            }
            for (int i = 0; i < d.moss; i++) {
                p -= Integer.signum(p);
            }
            return p > 99 ? 99 : p < -99 ? -99 : p;
        }

        World after(int n) {
            World w = new World(this);
            for (int i = 0; i < n; i++) {
                w.step();
            }
            return w;
        }

        void step() {
            int[] paces = new int[dials.size()];
            for (int i = 0; i < paces.length; i++) {
                paces[i] = dials.get(i).stopped ? 0 : pace(i);
            }
            for (int i = 0; i < paces.length; i++) {
                dials.get(i).going = paces[i];
                dials.get(i).hour = (dials.get(i).hour + paces[i] + 7200) % 720;
            }
            tick++;
        }

        List<Integer> wayOf(int d) {
            Set<Integer> seen = new LinkedHashSet<>();
            for (int m = dials.get(d).master; seen.add(m);) {
                m = dials.get(m).master;
            }
            return new ArrayList<>(seen);
        }

        boolean inRing(int d) {
            return wayOf(d).contains(d);
        }

        List<Integer> ringOf(int d) {
            if (inRing(d)) {
                return wayOf(d);
            }
            return ringOf(dials.get(d).master);
        }

        List<Integer> goings() {
            List<Integer> all = new ArrayList<>();
            for (Dial d : dials) {
                all.add(d.going);
            }
            return all;
        }

        int set(java.util.function.IntPredicate which) {
            int set = 0;
            for (int d = 0; d < dials.size(); d++) {
                if (which.test(d)) {
                    set += 1 << d;
                }
            }
            return set;
        }
    }

    private static final class Row {
        final int bits;
        final int[] numbers;

        Row(int bits, int n) {
            this.bits = bits;
            this.numbers = new int[n];
        }
    }

    private World now = new World();
    private World image;
    private final Map<Integer, Row> rows = new HashMap<>();
    private final StringBuilder tape = new StringBuilder();
    private final Map<Integer, Integer> told = new HashMap<>();

    long call(String name, int[] a) {
        try {
            return answer(name, a);
        } catch (Finding f) {
            told.merge(-1000001 - f.code, 1, Integer::sum);
            return f.code;
        }
    }

    private static void need(boolean ok, int code) {
        if (!ok) {
            throw new Finding(code);
        }
    }

    private static void in(int v, int least, int most) {
        need(least <= v && v <= most, Check.BEYOND);
    }

    private Dial at(int d) {
        in(d, 0, now.dials.size() - 1);
        return now.dials.get(d);
    }

    private Row row(int s) {
        in(s, 0, 3);
        need(rows.containsKey(s), Check.MISSING);
        return rows.get(s);
    }

    private static int bits(List<Integer> members) {
        int set = 0;
        for (int m : members) {
            set |= 1 << m;
        }
        return set;
    }

    private World with(Consumer<World> change) {
        World w = new World(now);
        change.accept(w);
        return w;
    }

    private static int bestOf(int n, ToIntFunction<Integer> worth) {
        int best = 0;
        for (int i = 1; i < n; i++) {
            if (worth.applyAsInt(i) > worth.applyAsInt(best)) {
                best = i;
            }
        }
        return best;
    }

    private int first(int most, java.util.function.Predicate<World> is) {
        World w = new World(now);
        for (int n = 0; n <= most; n++) {
            if (is.test(w)) {
                return n;
            }
            w = w.after(1);
        }
        throw new Finding(Check.NONE);
    }

    private long answer(String name, int[] a) {
        switch (name) {
            case "dial": case "of": case "change": case "jog": case "stop": case "go": case "now":
                return dials(name, a);
            case "way": case "ring": case "rings": case "before": case "under": case "greatest":
                return net(name, a);
            case "ahead": case "going": case "shows": case "meet": case "halts": case "settles": case "kindFor":
                return future(name, a);
            case "jogFor": case "most": case "jogs": case "right": case "masters": case "kinds": case "masterFor":
                return search(name, a);
            case "halted": case "weakest": case "cut": case "frosts": case "odds": case "seed":
                return stops(name, a);
            case "feed": case "wipe": case "text": case "hold": case "as":
                return texts(name, a);
            case "sheet": case "write": case "copy": case "load": case "judge":
                return sheets(name, a);
            default:
                return images(name, a);
        }
    }

    private int dials(String name, int[] a) {
        switch (name) {
            case "dial":
                in(a[0], 0, 6);
                need(now.dials.size() < 10, Check.FULL);
                now.dials.add(new Dial(a[0], now.dials.size()));
                return now.dials.size() - 1;
            case "of":
                return of(at(a[0]), a[0], a[1]);
            case "change":
                return change(at(a[0]), a[0], a[1], a[2]);
            case "jog":
                at(a[0]);
                in(a[1], -719, 719);
                return at(a[0]).hour = (at(a[0]).hour + a[1] + 720) % 720;
            case "stop": {
                Dial d = at(a[0]);
                in(a[1], 0, 1);
                if (d.stopped == (a[1] == 1)) {
                    return 0;
                }
                d.stopped = a[1] == 1;
                d.going = 1 - a[1];
                return 1;
            }
            case "go":
                in(a[0], 1, 100);
                need(now.tick + a[0] <= 99999, Check.STATE);
                now = now.after(a[0]);
                return now.tick;
            default:
                return now(a[0]);
        }
    }

    private int of(Dial d, int n, int what) {
        in(what, 0, 6);
        return new int[] {d.kind, d.hour, d.master, d.going, d.stopped ? 1 : 0, d.moss, now.pace(n)}[what];
    }

    private int change(Dial d, int n, int what, int v) {
        int was;
        if (what == 0) {
            in(v, 0, 6);
            was = d.kind;
            d.kind = v;
        } else if (what == 1) {
            in(v, 0, 719);
            was = d.hour;
            d.hour = v;
        } else if (what == 2) {
            at(v);
            was = d.master;
            d.master = v;
        } else if (what == 3) {
            in(v, -99, 99);
            was = d.going;
            d.going = v;
        } else if (what == 5) {
            in(v, 0, 9);
            was = d.moss;
            d.moss = v;
        } else {
            throw new Finding(Check.BEYOND);
        }
        return was;
    }

    private int now(int what) {
        in(what, 0, 5);
        switch (what) {
            case 0:
                return now.tick;
            case 1:
                return now.set(d -> now.dials.get(d).stopped);
            case 2:
                return now.set(d -> now.dials.get(d).going == 0);
            case 3:
                return now.set(d -> now.dials.get(d).master == d);
            case 4:
                return now.goings().stream().mapToInt(Integer::intValue).sum();
            default:
                return now.dials.stream().mapToInt(d -> d.hour).distinct().count() < 2 ? 1 : 0;
        }
    }

    private int net(String name, int[] a) {
        int size = now.dials.size();
        switch (name) {
            case "way":
                at(a[0]);
                return bits(now.wayOf(a[0]));
            case "ring":
                at(a[0]);
                return bits(now.ringOf(a[0]));
            case "rings":
                return rings();
            case "before": {
                at(a[0]);
                int steps = 0;
                for (int d = a[0]; !now.inRing(d); d = now.dials.get(d).master) {
                    steps++;
                }
                return steps;
            }
            case "under":
                at(a[0]);
                return now.set(d -> now.wayOf(d).contains(a[0]));
            default:
                need(size > 0, Check.NONE);
                return bestOf(size, d -> Integer.bitCount(now.set(e -> now.wayOf(e).contains(d))));
        }
    }

    private int rings() {
        Set<Integer> all = new LinkedHashSet<>();
        for (int d = 0; d < now.dials.size(); d++) {
            all.add(bits(now.ringOf(d)));
        }
        return all.size();
    }

    private int future(String name, int[] a) {
        switch (name) {
            case "ahead":
                at(a[0]);
                in(a[1], 0, 200);
                return now.after(a[1]).dials.get(a[0]).hour;
            case "going":
                at(a[0]);
                in(a[1], 0, 200);
                return now.after(a[1]).dials.get(a[0]).going;
            case "shows":
                at(a[0]);
                in(a[1], 0, 719);
                return first(200, w -> w.dials.get(a[0]).hour == a[1]);
            case "meet":
                at(a[0]);
                at(a[1]);
                need(a[0] != a[1], Check.BEYOND);
                return first(200, w -> w.dials.get(a[0]).hour == w.dials.get(a[1]).hour);
            case "halts":
                at(a[0]);
                return first(200, w -> w.dials.get(a[0]).going == 0);
            case "settles":
                return first(100, w -> w.after(1).goings().equals(w.goings()));
            default:
                at(a[0]);
                in(a[1], 1, 100);
                return bestOf(7, kind -> far(with(w -> w.dials.get(a[0]).kind = kind), a[0], a[1]));
        }
    }

    private static int far(World w, int d, int n) {
        int sum = 0;
        World at = w;
        for (int i = 0; i < n; i++) {
            at = at.after(1);
            sum += Math.abs(at.dials.get(d).going);
        }
        return sum;
    }

    private static TreeMap<Integer, Integer> byHour(World w) {
        TreeMap<Integer, Integer> sets = new TreeMap<>();
        for (int d = 0; d < w.dials.size(); d++) {
            sets.merge(w.dials.get(d).hour, 1 << d, Integer::sum);
        }
        return sets;
    }

    private static int commonest(World w) {
        int hour = -1;
        int most = 0;
        for (Map.Entry<Integer, Integer> e : byHour(w).entrySet()) {
            if (Integer.bitCount(e.getValue()) > most) {
                most = Integer.bitCount(e.getValue());
                hour = e.getKey();
            }
        }
        return hour;
    }

    private int search(String name, int[] a) {
        switch (name) {
            case "jogFor":
                at(a[0]);
                in(a[1], 0, 719);
                in(a[2], 0, 200);
                for (int v = 0;; v++) {
                    int hour = now.after(a[2]).dials.get(a[0]).hour;
                    if ((hour + v) % 720 == a[1]) {
                        return v;
                    }
                    if ((hour - v + 720) % 720 == a[1]) {
                        return -v;
                    }
                }
            case "most":
                need(!now.dials.isEmpty(), Check.NONE);
                return commonest(now);
            case "jogs":
                in(a[0], 0, 200);
                return now.dials.size() - Integer.bitCount(alike(now.after(a[0])));
            case "right":
                in(a[0], 0, 200);
                return alike(now.after(a[0]));
            case "masters": {
                Row row = row(a[0]);
                at(a[1]);
                return now.set(m -> tells(row, with(w -> w.dials.get(a[1]).master = m), a[1]));
            }
            case "kinds": {
                Row row = row(a[0]);
                at(a[1]);
                int set = 0;
                for (int k = 0; k < 7; k++) {
                    int kind = k;
                    set |= tells(row, with(w -> w.dials.get(a[1]).kind = kind), a[1]) ? 1 << k : 0;
                }
                return set;
            }
            default:
                at(a[0]);
                in(a[1], 0, 719);
                in(a[2], 0, 100);
                return bestOf(now.dials.size(), m -> -apart(a[1],
                    with(w -> w.dials.get(a[0]).master = m).after(a[2]).dials.get(a[0]).hour));
        }
    }

    private static int apart(int a, int b) {
        int best = 720;
        for (int turn = -720; turn <= 720; turn += 720) {
            best = Math.min(best, Math.abs(a - b + turn));
        }
        return best;
    }

    private static int alike(World w) {
        return byHour(w).getOrDefault(commonest(w), 0);
    }

    private static boolean tells(Row row, World w, int d) {
        for (int i = 0; i < row.numbers.length; i++) {
            if (row.numbers[i] != -1 && w.after(i).dials.get(d).hour != row.numbers[i]) {
                return false;
            }
        }
        return true;
    }

    private int still(int set, int n) {
        World w = with(v -> {
            for (int d = 0; d < v.dials.size(); d++) {
                if ((set & 1 << d) != 0) {
                    v.dials.get(d).stopNow();
                }
            }
        }).after(n);
        return w.set(d -> w.dials.get(d).going == 0);
    }

    private long stops(String name, int[] a) {
        int size = now.dials.size();
        switch (name) {
            case "halted":
                at(a[0]);
                in(a[1], 0, 100);
                return Integer.bitCount(still(1 << a[0], a[1]));
            case "weakest":
                in(a[0], 0, 100);
                need(size > 0, Check.NONE);
                return bestOf(size, d -> Integer.bitCount(still(1 << d, a[0])));
            case "cut": {
                in(a[0], 0, 100);
                int best = -1;
                for (int set = 0; set < 1 << size; set++) {
                    boolean fewer = best < 0 || Integer.bitCount(set) < Integer.bitCount(best);
                    if (fewer && still(set, a[0]) == (1 << size) - 1) {
                        best = set;
                    }
                }
                need(best >= 0, Check.NONE);
                return best;
            }
            case "frosts":
                in(a[0], 1, 20);
                need(now.tick + a[0] <= 99999, Check.STATE);
                for (int i = 0; i < a[0]; i++) {
                    for (Dial d : now.dials) {
                        now.z = BigInteger.valueOf(now.z).multiply(BigInteger.valueOf(1103515245))
                            .add(BigInteger.valueOf(12345)).intValue();
                        if (Integer.remainderUnsigned(Integer.divideUnsigned(now.z, 256), 16) == 0) {
                            d.stopNow();
                        }
                    }
                    now.step();
                }
                return now.dials.stream().filter(d -> d.stopped).count();
            case "odds": {
                in(a[0], 0, 14);
                in(a[1], 0, 1);
                BigInteger above = BigInteger.valueOf(15).pow(a[0]);
                BigInteger below = BigInteger.valueOf(16).pow(a[0]);
                return (a[1] == 0 ? above : below).divide(above.gcd(below)).longValueExact();
            }
            default: {
                int was = now.z;
                now.z = a[0];
                return was;
            }
        }
    }

    private int texts(String name, int[] a) {
        switch (name) {
            case "feed":
                in(a[1], 1, 4);
                need(tape.length() + a[1] <= 120, Check.FULL);
                for (int i = a[1] - 1; i >= 0; i--) {
                    tape.append((char) (a[0] >> 8 * i & 255));
                }
                return tape.length();
            case "wipe": {
                int had = tape.length();
                tape.setLength(0);
                return had;
            }
            case "text": {
                World w = new World(now);
                int answer = new Text(tape.toString(), w).read();
                tape.setLength(0);
                if (answer >= 0) {
                    now = w;
                }
                return answer;
            }
            case "hold":
                in(a[0], 0, 9);
                in(a[1], -1, now.dials.size() - 1);
                now.spots.put(a[0], a[1]);
                return 1;
            default: {
                in(a[0], 0, 9);
                in(a[1], 0, 6);
                int held = now.spots.getOrDefault(a[0], -1);
                need(held >= 0, Check.MISSING);
                String[] names = {"d", "dl", "dt", "dtb", "dtbp", "dh", "dlL"};
                need(names[now.dials.get(held).kind].startsWith(names[a[1]]), Check.KIND);
                return held;
            }
        }
    }

    /** Cuts the whole tape into tokens first; then eats them. */
    private static final class Text {
        private static final List<String> WORDS = Arrays.asList("dial", "late", "twin", "back", "proud", "half", "later");
        private final List<String> tokens = new ArrayList<>();
        private final List<Integer> places = new ArrayList<>();
        private final World world;
        private int next = 0;

        Text(String tape, World world) {
            this.world = world;
            Matcher m = Pattern.compile("[a-z]+|[0-9]+|[^ ]", Pattern.DOTALL).matcher(tape);
            while (m.find()) {
                tokens.add(m.group());
                places.add(m.start());
            }
            tokens.add("");
            places.add(tape.length());
        }

        int read() {
            try {
                int items = 0;
                do {
                    item();
                    items++;
                } while (eat(";"));
                expect(tokens.get(next).isEmpty());
                return items;
            } catch (IllegalStateException fault) {
                return -1 - places.get(next);
            }
        }

        private void expect(boolean ok) {
            if (!ok) {
                throw new IllegalStateException();
            }
        }

        private boolean eat(String token) {
            if (!tokens.get(next).equals(token)) {
                return false;
            }
            next++;
            return true;
        }

        private int number(int most) {
            String t = tokens.get(next);
            expect(t.matches("[0-9]+") && new BigInteger(t).compareTo(BigInteger.valueOf(most)) <= 0);
            next++;
            return Integer.parseInt(t);
        }

        private void item() {
            if (eat("master")) {
                int first = number(world.dials.size() - 1);
                world.dials.get(first).master = number(world.dials.size() - 1);
                return;
            }
            expect(WORDS.contains(tokens.get(next)) && world.dials.size() < 10);
            Dial d = new Dial(WORDS.indexOf(tokens.get(next)), world.dials.size());
            next++;
            world.dials.add(d);
            d.hour = eat("shows") ? number(719) : d.hour;
            d.master = eat("follows") ? number(world.dials.size() - 1) : d.master;
            if (eat("goes")) {
                d.going = eat("-") ? -number(99) : number(99);
            }
            d.moss = eat("moss") ? number(9) : 0;
            if (eat("stopped")) {
                d.stopNow();
            }
        }
    }

    private int sheets(String name, int[] a) {
        switch (name) {
            case "sheet":
                in(a[0], 0, 3);
                need(Arrays.asList(0, 8, 16, 32).contains(a[1]), Check.BEYOND);
                need(a[2] >= 0, Check.SIZE);
                in(a[2], 0, 40);
                rows.remove(a[0]);
                if (a[1] != 0) {
                    rows.put(a[0], new Row(a[1], a[2]));
                }
                return a[1] == 0 ? 0 : a[2];
            case "write": {
                Row row = row(a[0]);
                in(a[1], 0, row.numbers.length - 1);
                row.numbers[a[1]] = a[2] << 32 - row.bits >> 32 - row.bits;
                return 1;
            }
            case "copy": {
                in(a[0], 0, 3);
                in(a[2], 0, 3);
                Row s = row(a[0]);
                Row t = row(a[2]);
                need(s.bits == t.bits, Check.KIND);
                need(a[1] >= 0 && a[3] >= 0 && a[4] >= 0, Check.BEYOND);
                need((long) a[1] + a[4] <= s.numbers.length && (long) a[3] + a[4] <= t.numbers.length, Check.BEYOND);
                int[] were = s.numbers.clone();
                for (int i = 0; i < a[4]; i++) {
                    t.numbers[a[3] + i] = were[a[1] + i];
                }
                return a[4];
            }
            case "load": {
                int came = 0;
                for (int number : row(a[0]).numbers) {
                    if (number < 0 || number > 719 || came == now.dials.size()) {
                        break;
                    }
                    now.dials.get(came++).hour = number;
                }
                return came;
            }
            default: {
                int[] way = row(a[0]).numbers;
                for (int i = 0; i < way.length; i++) {
                    boolean is = way[i] >= 0 && way[i] < now.dials.size();
                    if (!is || i > 0 && now.dials.get(way[i - 1]).master != way[i]) {
                        return i + 1;
                    }
                }
                return 0;
            }
        }
    }

    private int images(String name, int[] a) {
        switch (name) {
            case "image":
                image = new World(now);
                return 1;
            case "undo":
                need(image != null, Check.NONE);
                now = new World(image);
                return now.tick;
            case "tear": {
                int was = image == null ? 0 : 1;
                image = null;
                return was;
            }
            case "count":
                return count(a[0]);
            case "status":
                in(a[0], -1, 6);
                return a[0] < 0 ? told.values().stream().mapToInt(Integer::intValue).sum() : told.getOrDefault(a[0], 0);
            default:
                throw new IllegalArgumentException(name);
        }
    }

    private int count(int what) {
        in(what, 0, 7);
        switch (what) {
            case 0:
                return now.tick;
            case 1:
                return now.dials.size();
            case 2:
                return (int) now.dials.stream().filter(d -> d.stopped).count();
            case 3:
                return rings();
            case 4:
                return now.dials.stream().mapToInt(d -> d.hour).sum();
            case 5:
                return tape.length();
            case 6:
                return now.z;
            default:
                return (int) now.spots.values().stream().filter(d -> d >= 0).count();
        }
    }
}
