/** A garden of dials, each of which goes by another one; ../shared/DOC.md tells what each call promises. */
public final class FollowedHours {
    private static final int BEYOND = -1000001;
    private static final int FULL = BEYOND - 1;
    private static final int KIND = BEYOND - 2;
    private static final int NONE = BEYOND - 3;
    private static final int STATE = BEYOND - 4;
    private static final int MISSING = BEYOND - 5;
    private static final int SIZE = BEYOND - 6;
    private static final int FINDINGS = 7;

    private static final int DIALS = 10;
    private static final int SPOTS = 10;
    private static final int SHEETS = 4;
    private static final int NUMBERS = 40;
    private static final int BYTES = 120;
    private static final int HOURS = 720;
    private static final int FASTEST = 99;
    private static final int MOSSIEST = 9;
    private static final int LAST_TICK = 99999;

    private static final int FAR = 200;
    private static final int NEAR = 100;
    private static final int FROSTS = 20;
    private static final int ODDS = 14;
    private static final int FROST_IN = 16;

    private static final int DIAL = 0;
    private static final int LATE = 1;
    private static final int TWIN = 2;
    private static final int BACK = 3;
    private static final int PROUD = 4;
    private static final int HALF = 5;
    private static final int LATER = 6;
    /** The kind that each kind stands under; DIAL stands under none. */
    private static final int[] UPPER_KIND = {-1, DIAL, DIAL, TWIN, BACK, DIAL, LATE};

    private final Garden garden;
    private final Garden kept;
    /** What would be is tried here, so that no call has to make a garden. */
    private final Garden trial;
    private final Tape tape;
    private final Reader reader;
    private final Sheet[] sheets;
    private final int[] findings;
    private boolean isKept;

    public FollowedHours() {
        garden = new Garden();
        kept = new Garden();
        trial = new Garden();
        tape = new Tape();
        reader = new Reader(tape);
        sheets = new Sheet[SHEETS];
        for (int s = 0; s < SHEETS; s++) {
            sheets[s] = new Sheet();
        }
        findings = new int[FINDINGS];
        isKept = false;
    }

    // ---- dials

    public int dial(int kind) {
        if (!isKind(kind)) {
            return tell(BEYOND);
        }
        if (garden.isFull()) {
            return tell(FULL);
        }
        return garden.add(kind);
    }

    public int of(int dial, int what) {
        if (!garden.has(dial)) {
            return tell(BEYOND);
        }
        if (what == 6) {
            return garden.paceOf(dial);
        }
        int[] row = garden.rowOf(what);
        return row == null ? tell(BEYOND) : row[dial];
    }

    public int change(int dial, int what, int v) {
        int[] row = garden.rowOf(what);
        if (!garden.has(dial) || row == null || !garden.mayBecome(what, v)) {
            return tell(BEYOND);
        }
        int was = row[dial];
        row[dial] = v;
        return was;
    }

    public int jog(int dial, int v) {
        if (!garden.has(dial) || !isWithin(v, 1 - HOURS, HOURS - 1)) {
            return tell(BEYOND);
        }
        garden.turn(dial, v);
        return garden.hourOf[dial];
    }

    public int stop(int dial, int is) {
        if (!garden.has(dial) || !isWithin(is, 0, 1)) {
            return tell(BEYOND);
        }
        boolean isNew = is == 1 ? garden.freeze(dial) : garden.thaw(dial);
        return isNew ? 1 : 0;
    }

    // ---- ticks

    public int go(int n) {
        if (!isWithin(n, 1, NEAR)) {
            return tell(BEYOND);
        }
        if (garden.tick > LAST_TICK - n) {
            return tell(STATE);
        }
        garden.passTicks(n);
        return garden.tick;
    }

    public int now(int what) {
        switch (what) {
            case 0:
                return garden.tick;
            case 1:
                return garden.stoppedSet();
            case 2:
                return garden.stillSet();
            case 3:
                return garden.ownMasterSet();
            case 4:
                return garden.sumOf(garden.goingOf);
            case 5:
                return Integer.bitCount(garden.alikeSet()) == garden.size ? 1 : 0;
            default:
                return tell(BEYOND);
        }
    }

    // ---- the net

    public int way(int dial) {
        return garden.has(dial) ? garden.waySet(dial) : tell(BEYOND);
    }

    public int ring(int dial) {
        return garden.has(dial) ? garden.ringSet(dial) : tell(BEYOND);
    }

    public int rings() {
        return garden.ringCount();
    }

    public int before(int dial) {
        return garden.has(dial) ? garden.stepsToRing(dial) : tell(BEYOND);
    }

    public int under(int dial) {
        return garden.has(dial) ? garden.underSet(dial) : tell(BEYOND);
    }

    public int greatest() {
        int best = -1;
        int most = -1;
        for (int d = 0; d < garden.size; d++) {
            int many = Integer.bitCount(garden.underSet(d));
            if (many > most) {
                most = many;
                best = d;
            }
        }
        return best < 0 ? tell(NONE) : best;
    }

    // ---- what will be

    public int ahead(int dial, int n) {
        if (!garden.has(dial) || !isWithin(n, 0, FAR)) {
            return tell(BEYOND);
        }
        tryTicks(n);
        return trial.hourOf[dial];
    }

    public int going(int dial, int n) {
        if (!garden.has(dial) || !isWithin(n, 0, FAR)) {
            return tell(BEYOND);
        }
        tryTicks(n);
        return trial.goingOf[dial];
    }

    public int shows(int dial, int hour) {
        if (!garden.has(dial) || !isHour(hour)) {
            return tell(BEYOND);
        }
        trial.become(garden);
        for (int n = 0; n <= FAR; n++) {
            if (trial.hourOf[dial] == hour) {
                return n;
            }
            trial.passTick();
        }
        return tell(NONE);
    }

    public int meet(int a, int b) {
        if (!garden.has(a) || !garden.has(b) || a == b) {
            return tell(BEYOND);
        }
        trial.become(garden);
        for (int n = 0; n <= FAR; n++) {
            if (trial.hourOf[a] == trial.hourOf[b]) {
                return n;
            }
            trial.passTick();
        }
        return tell(NONE);
    }

    public int halts(int dial) {
        if (!garden.has(dial)) {
            return tell(BEYOND);
        }
        trial.become(garden);
        for (int n = 0; n <= FAR; n++) {
            if (trial.goingOf[dial] == 0) {
                return n;
            }
            trial.passTick();
        }
        return tell(NONE);
    }

    public int settles() {
        trial.become(garden);
        for (int n = 0; n <= NEAR; n++) {
            trial.markGoings();
            trial.passTick();
            if (trial.goesAsMarked()) {
                return n;
            }
        }
        return tell(NONE);
    }

    public int kindFor(int dial, int n) {
        if (!garden.has(dial) || !isWithin(n, 1, NEAR)) {
            return tell(BEYOND);
        }
        int best = DIAL;
        int farthest = -1;
        for (int kind = 0; kind < UPPER_KIND.length; kind++) {
            int far = distanceAs(dial, kind, n);
            if (far > farthest) {
                farthest = far;
                best = kind;
            }
        }
        return best;
    }

    // ---- jogs

    public int jogFor(int dial, int hour, int n) {
        if (!garden.has(dial) || !isHour(hour) || !isWithin(n, 0, FAR)) {
            return tell(BEYOND);
        }
        tryTicks(n);
        int forward = roundHour(hour - trial.hourOf[dial]);
        return forward <= HOURS / 2 ? forward : forward - HOURS;
    }

    public int most() {
        int alike = garden.alikeSet();
        return alike == 0 ? tell(NONE) : garden.hourOf[lowestOf(alike)];
    }

    public int jogs(int n) {
        if (!isWithin(n, 0, FAR)) {
            return tell(BEYOND);
        }
        tryTicks(n);
        return trial.size - Integer.bitCount(trial.alikeSet());
    }

    public int right(int n) {
        if (!isWithin(n, 0, FAR)) {
            return tell(BEYOND);
        }
        tryTicks(n);
        return trial.alikeSet();
    }

    // ---- masters

    public int masters(int s, int dial) {
        int wrong = findingOfSheet(s);
        if (wrong == 0 && !garden.has(dial)) {
            wrong = BEYOND;
        }
        if (wrong != 0) {
            return tell(wrong);
        }
        int set = 0;
        for (int m = 0; m < garden.size; m++) {
            trial.become(garden);
            trial.masterOf[dial] = m;
            if (triedShowsAs(sheets[s], dial)) {
                set |= 1 << m;
            }
        }
        return set;
    }

    public int kinds(int s, int dial) {
        int wrong = findingOfSheet(s);
        if (wrong == 0 && !garden.has(dial)) {
            wrong = BEYOND;
        }
        if (wrong != 0) {
            return tell(wrong);
        }
        int set = 0;
        for (int kind = 0; kind < UPPER_KIND.length; kind++) {
            trial.become(garden);
            trial.kindOf[dial] = kind;
            if (triedShowsAs(sheets[s], dial)) {
                set |= 1 << kind;
            }
        }
        return set;
    }

    public int masterFor(int dial, int hour, int n) {
        if (!garden.has(dial) || !isHour(hour) || !isWithin(n, 0, NEAR)) {
            return tell(BEYOND);
        }
        int best = 0;
        int nearest = HOURS;
        for (int m = 0; m < garden.size; m++) {
            trial.become(garden);
            trial.masterOf[dial] = m;
            trial.passTicks(n);
            int off = hoursBetween(trial.hourOf[dial], hour);
            if (off < nearest) {
                nearest = off;
                best = m;
            }
        }
        return best;
    }

    // ---- stops

    public int halted(int dial, int n) {
        if (!garden.has(dial) || !isWithin(n, 0, NEAR)) {
            return tell(BEYOND);
        }
        return Integer.bitCount(stillIfStopped(1 << dial, n));
    }

    public int weakest(int n) {
        if (!isWithin(n, 0, NEAR)) {
            return tell(BEYOND);
        }
        int best = -1;
        int most = -1;
        for (int d = 0; d < garden.size; d++) {
            int still = Integer.bitCount(stillIfStopped(1 << d, n));
            if (still > most) {
                most = still;
                best = d;
            }
        }
        return best < 0 ? tell(NONE) : best;
    }

    public int cut(int n) {
        if (!isWithin(n, 0, NEAR)) {
            return tell(BEYOND);
        }
        int all = (1 << garden.size) - 1;
        // to stop a stopped one changes nothing, so that no set of fewest has it
        int useless = garden.stoppedSet();
        for (int few = 0; few <= garden.size; few++) {
            for (int set = 0; set <= all; set++) {
                boolean isTried = Integer.bitCount(set) == few && (set & useless) == 0;
                if (isTried && stillIfStopped(set, n) == all) {
                    return set;
                }
            }
        }
        return tell(NONE);
    }

    // ---- frosts

    public int frosts(int n) {
        if (!isWithin(n, 1, FROSTS)) {
            return tell(BEYOND);
        }
        if (garden.tick > LAST_TICK - n) {
            return tell(STATE);
        }
        for (int i = 0; i < n; i++) {
            for (int d = 0; d < garden.size; d++) {
                if (garden.draw() % FROST_IN == 0) {
                    garden.freeze(d);
                }
            }
            garden.passTick();
        }
        return Integer.bitCount(garden.stoppedSet());
    }

    public long odds(int n, int what) {
        if (!isWithin(n, 0, ODDS) || !isWithin(what, 0, 1)) {
            return tell(BEYOND);
        }
        // powers of 15 and of 16 have no divisor in common: these are the lowest terms
        int factor = what == 0 ? FROST_IN - 1 : FROST_IN;
        long power = 1;
        for (int i = 0; i < n; i++) {
            power *= factor;
        }
        return power;
    }

    public int seed(int v) {
        int was = garden.drawn;
        garden.drawn = v;
        return was;
    }

    // ---- texts

    public int feed(int bytes, int n) {
        if (!isWithin(n, 1, 4)) {
            return tell(BEYOND);
        }
        if (tape.size > BYTES - n) {
            return tell(FULL);
        }
        for (int i = n - 1; i >= 0; i--) {
            tape.append((bytes >>> (8 * i)) & 255);
        }
        return tape.size;
    }

    public int wipe() {
        int had = tape.size;
        tape.size = 0;
        return had;
    }

    public int text() {
        trial.become(garden);
        int answer = reader.readInto(trial);
        if (answer >= 0) {
            garden.become(trial);
        }
        tape.size = 0;
        return answer;
    }

    // ---- spots, sheets

    public int hold(int spot, int dial) {
        if (!isSpot(spot) || (dial != -1 && !garden.has(dial))) {
            return tell(BEYOND);
        }
        garden.spots[spot] = dial;
        return 1;
    }

    public int as(int spot, int kind) {
        if (!isSpot(spot) || !isKind(kind)) {
            return tell(BEYOND);
        }
        int held = garden.spots[spot];
        if (!garden.has(held)) {
            return tell(MISSING);
        }
        return isOfKind(garden.kindOf[held], kind) ? held : tell(KIND);
    }

    public int sheet(int s, int bits, int n) {
        boolean isBits = bits == 0 || bits == 8 || bits == 16 || bits == 32;
        if (!isSheet(s) || !isBits) {
            return tell(BEYOND);
        }
        if (n < 0) {
            return tell(SIZE);
        }
        if (n > NUMBERS) {
            return tell(BEYOND);
        }
        sheets[s].layOut(bits, n);
        return sheets[s].size;
    }

    public int write(int s, int i, int v) {
        int wrong = findingOfSheet(s);
        if (wrong == 0 && !isWithin(i, 0, sheets[s].size - 1)) {
            wrong = BEYOND;
        }
        if (wrong != 0) {
            return tell(wrong);
        }
        sheets[s].put(i, v);
        return 1;
    }

    public int copy(int s, int from, int t, int to, int n) {
        if (!isSheet(s) || !isSheet(t)) {
            return tell(BEYOND);
        }
        Sheet source = sheets[s];
        Sheet target = sheets[t];
        if (source.isMissing() || target.isMissing()) {
            return tell(MISSING);
        }
        if (source.bits != target.bits) {
            return tell(KIND);
        }
        if (!source.hasPart(from, n) || !target.hasPart(to, n)) {
            return tell(BEYOND);
        }
        System.arraycopy(source.numbers, from, target.numbers, to, n);
        return n;
    }

    public int load(int s) {
        int wrong = findingOfSheet(s);
        if (wrong != 0) {
            return tell(wrong);
        }
        int most = Math.min(sheets[s].size, garden.size);
        for (int i = 0; i < most; i++) {
            if (!isHour(sheets[s].numbers[i])) {
                return i;
            }
            garden.hourOf[i] = sheets[s].numbers[i];
        }
        return most;
    }

    public int judge(int s) {
        int wrong = findingOfSheet(s);
        if (wrong != 0) {
            return tell(wrong);
        }
        int due = -1;
        for (int i = 0; i < sheets[s].size; i++) {
            int number = sheets[s].numbers[i];
            boolean isSo = i == 0 ? garden.has(number) : number == due;
            if (!isSo) {
                return 1 + i;
            }
            due = garden.masterOf[number];
        }
        return 0;
    }

    // ---- images

    public int image() {
        kept.become(garden);
        isKept = true;
        return 1;
    }

    public int undo() {
        if (!isKept) {
            return tell(NONE);
        }
        garden.become(kept);
        return garden.tick;
    }

    public int tear() {
        boolean was = isKept;
        isKept = false;
        return was ? 1 : 0;
    }

    public int count(int what) {
        switch (what) {
            case 0:
                return garden.tick;
            case 1:
                return garden.size;
            case 2:
                return Integer.bitCount(garden.stoppedSet());
            case 3:
                return garden.ringCount();
            case 4:
                return garden.sumOf(garden.hourOf);
            case 5:
                return tape.size;
            case 6:
                return garden.drawn;
            case 7:
                return garden.heldCount();
            default:
                return tell(BEYOND);
        }
    }

    public int status(int which) {
        if (which == -1) {
            int all = 0;
            for (int many : findings) {
                all += many;
            }
            return all;
        }
        return isWithin(which, 0, FINDINGS - 1) ? findings[which] : tell(BEYOND);
    }

    // ---- helpers

    /** Each finding goes out through here, so that status() knows of it. */
    private int tell(int finding) {
        int place = BEYOND - finding;
        if (isWithin(place, 0, FINDINGS - 1)) {
            findings[place]++;
        }
        return finding;
    }

    /** The finding that stands against the use of a sheet, or 0. */
    private int findingOfSheet(int s) {
        if (!isSheet(s)) {
            return BEYOND;
        }
        return sheets[s].isMissing() ? MISSING : 0;
    }

    private void tryTicks(int n) {
        trial.become(garden);
        trial.passTicks(n);
    }

    private int distanceAs(int dial, int kind, int n) {
        trial.become(garden);
        trial.kindOf[dial] = kind;
        int far = 0;
        for (int i = 0; i < n; i++) {
            trial.passTick();
            far += Math.abs(trial.goingOf[dial]);
        }
        return far;
    }

    private boolean triedShowsAs(Sheet told, int dial) {
        for (int i = 0; i < told.size; i++) {
            int number = told.numbers[i];
            if (number != -1 && number != trial.hourOf[dial]) {
                return false;
            }
            trial.passTick();
        }
        return true;
    }

    private int stillIfStopped(int set, int n) {
        trial.become(garden);
        for (int d = 0; d < trial.size; d++) {
            if (isIn(set, d)) {
                trial.freeze(d);
            }
        }
        trial.passTicksForGoings(n);
        return trial.stillSet();
    }

    private static boolean isWithin(int v, int least, int most) {
        return v >= least && v <= most;
    }

    private static boolean isKind(int v) {
        return isWithin(v, 0, UPPER_KIND.length - 1);
    }

    private static boolean isHour(int v) {
        return isWithin(v, 0, HOURS - 1);
    }

    private static boolean isSpot(int v) {
        return isWithin(v, 0, SPOTS - 1);
    }

    private static boolean isSheet(int v) {
        return isWithin(v, 0, SHEETS - 1);
    }

    private static boolean isIn(int set, int d) {
        return (set >> d & 1) == 1;
    }

    private static int lowestOf(int set) {
        return Integer.numberOfTrailingZeros(set);
    }

    private static int roundHour(int v) {
        return Math.floorMod(v, HOURS);
    }

    private static int hoursBetween(int a, int b) {
        int forward = roundHour(a - b);
        return Math.min(forward, HOURS - forward);
    }

    private static boolean isOfKind(int kind, int wanted) {
        int k = kind;
        for (int i = 0; i < UPPER_KIND.length && isKind(k); i++) {
            if (k == wanted) {
                return true;
            }
            k = UPPER_KIND[k];
        }
        return false;
    }

    /** All that an image keeps. */
    private static final class Garden {
        final int[] kindOf = new int[DIALS];
        final int[] hourOf = new int[DIALS];
        final int[] masterOf = new int[DIALS];
        final int[] goingOf = new int[DIALS];
        final int[] stopOf = new int[DIALS];
        final int[] mossOf = new int[DIALS];
        final int[] spots = new int[SPOTS];
        /** Room for a TICK: each GOING has to wait until all are known. */
        final int[] nextGoing = new int[DIALS];
        final int[] markedGoing = new int[DIALS];
        int size;
        int tick;
        int drawn;

        Garden() {
            size = 0;
            tick = 0;
            drawn = 1;
            for (int i = 0; i < SPOTS; i++) {
                spots[i] = -1;
            }
        }

        void become(Garden other) {
            size = other.size;
            tick = other.tick;
            drawn = other.drawn;
            System.arraycopy(other.kindOf, 0, kindOf, 0, DIALS);
            System.arraycopy(other.hourOf, 0, hourOf, 0, DIALS);
            System.arraycopy(other.masterOf, 0, masterOf, 0, DIALS);
            System.arraycopy(other.goingOf, 0, goingOf, 0, DIALS);
            System.arraycopy(other.stopOf, 0, stopOf, 0, DIALS);
            System.arraycopy(other.mossOf, 0, mossOf, 0, DIALS);
            System.arraycopy(other.spots, 0, spots, 0, SPOTS);
        }

        boolean has(int d) {
            return d >= 0 && d < size;
        }

        boolean isFull() {
            return size >= DIALS;
        }

        /** The new DIAL's number; whoever calls has seen that there is room. */
        int add(int kind) {
            int d = Math.min(size, DIALS - 1);
            kindOf[d] = kind;
            hourOf[d] = 0;
            masterOf[d] = d;
            goingOf[d] = 1;
            stopOf[d] = 0;
            mossOf[d] = 0;
            size = d + 1;
            return d;
        }

        int[] rowOf(int what) {
            switch (what) {
                case 0:
                    return kindOf;
                case 1:
                    return hourOf;
                case 2:
                    return masterOf;
                case 3:
                    return goingOf;
                case 4:
                    return stopOf;
                case 5:
                    return mossOf;
                default:
                    return null;
            }
        }

        /** STOPPED (4) is left to freeze and thaw, which see to GOING too. */
        boolean mayBecome(int what, int v) {
            switch (what) {
                case 0:
                    return isKind(v);
                case 1:
                    return isHour(v);
                case 2:
                    return has(v);
                case 3:
                    return isWithin(v, -FASTEST, FASTEST);
                case 5:
                    return isWithin(v, 0, MOSSIEST);
                default:
                    return false;
            }
        }

        void turn(int d, int v) {
            hourOf[d] = roundHour(hourOf[d] + v);
        }

        boolean freeze(int d) {
            if (stopOf[d] == 1) {
                return false;
            }
            stopOf[d] = 1;
            goingOf[d] = 0;
            return true;
        }

        boolean thaw(int d) {
            if (stopOf[d] == 0) {
                return false;
            }
            stopOf[d] = 0;
            goingOf[d] = 1;
            return true;
        }

        int draw() {
            drawn = drawn * 1103515245 + 12345;
            return drawn >>> 8;
        }

        int paceOf(int d) {
            int m = masterOf[d];
            int pace = m == d ? goingOf[d] : paceBehind(m, kindOf[d]);
            int slowed = Math.max(0, Math.abs(pace) - mossOf[d]);
            int limited = Math.min(slowed, FASTEST);
            return pace < 0 ? -limited : limited;
        }

        private int paceBehind(int m, int kind) {
            int g = goingOf[m];
            switch (kind) {
                case LATE:
                    return lateOf(g);
                case LATER:
                    return lateOf(lateOf(g));
                case HALF:
                    return g / 2 + (tick % 2 == 1 && g != 0 ? 1 : 0);
                case TWIN:
                    return 2 * g;
                case BACK:
                    return -2 * g;
                case PROUD:
                    return -2 * g + (stopOf[m] == 1 ? 3 : 0);
                default:
                    return g;
            }
        }

        private static int lateOf(int g) {
            return g > 0 ? g - 1 : g;
        }

        void passTick() {
            for (int d = 0; d < size; d++) {
                nextGoing[d] = stopOf[d] == 1 ? 0 : paceOf(d);
            }
            for (int d = 0; d < size; d++) {
                goingOf[d] = nextGoing[d];
                turn(d, nextGoing[d]);
            }
            tick = Math.min(tick + 1, LAST_TICK);
        }

        void passTicks(int n) {
            for (int i = 0; i < n; i++) {
                passTick();
            }
        }

        /**
         * As passTicks, but right for GOING alone: that hangs on GOING and on whether TICK is odd,
         * so what two TICKS leave as it was, each two more will leave so too. It is not so where
         * TICK stays at its last one.
         */
        void passTicksForGoings(int n) {
            boolean isNew = true;
            for (int left = n; left >= 2 && isNew; left -= 2) {
                markGoings();
                passTick();
                passTick();
                isNew = tick > LAST_TICK - left || !goesAsMarked();
            }
            if (n % 2 == 1) {
                passTick();
            }
        }

        void markGoings() {
            System.arraycopy(goingOf, 0, markedGoing, 0, DIALS);
        }

        boolean goesAsMarked() {
            for (int d = 0; d < size; d++) {
                if (goingOf[d] != markedGoing[d]) {
                    return false;
                }
            }
            return true;
        }

        int stoppedSet() {
            return setWhere(stopOf, 1);
        }

        int stillSet() {
            return setWhere(goingOf, 0);
        }

        private int setWhere(int[] row, int v) {
            int set = 0;
            for (int d = 0; d < size; d++) {
                if (row[d] == v) {
                    set |= 1 << d;
                }
            }
            return set;
        }

        int ownMasterSet() {
            int set = 0;
            for (int d = 0; d < size; d++) {
                if (masterOf[d] == d) {
                    set |= 1 << d;
                }
            }
            return set;
        }

        int sumOf(int[] row) {
            int sum = 0;
            for (int d = 0; d < size; d++) {
                sum += row[d];
            }
            return sum;
        }

        int heldCount() {
            int many = 0;
            for (int spot = 0; spot < SPOTS; spot++) {
                if (spots[spot] >= 0) {
                    many++;
                }
            }
            return many;
        }

        /** The most DIALS that SHOW one HOUR; of several such sets that of the least HOUR. */
        int alikeSet() {
            int best = 0;
            int bestHour = HOURS;
            for (int d = 0; d < size; d++) {
                int set = setWhere(hourOf, hourOf[d]);
                int more = Integer.bitCount(set) - Integer.bitCount(best);
                if (more > 0 || (more == 0 && hourOf[d] < bestHour)) {
                    best = set;
                    bestHour = hourOf[d];
                }
            }
            return best;
        }

        int waySet(int d) {
            int set = 0;
            int m = masterOf[d];
            for (int i = 0; i < size; i++) {
                set |= 1 << m;
                m = masterOf[m];
            }
            return set;
        }

        int ringSet(int d) {
            int m = d;
            // as many steps as there are DIALS lead into the RING from anywhere
            for (int i = 0; i < size; i++) {
                m = masterOf[m];
            }
            return waySet(m);
        }

        int ringCount() {
            int many = 0;
            for (int d = 0; d < size; d++) {
                // each RING counts once, by its least DIAL
                if (lowestOf(ringSet(d)) == d) {
                    many++;
                }
            }
            return many;
        }

        int stepsToRing(int d) {
            int set = ringSet(d);
            int m = d;
            int steps = 0;
            for (int i = 0; i < size && !isIn(set, m); i++) {
                m = masterOf[m];
                steps++;
            }
            return steps;
        }

        int underSet(int d) {
            int set = 0;
            for (int other = 0; other < size; other++) {
                if (isIn(waySet(other), d)) {
                    set |= 1 << other;
                }
            }
            return set;
        }
    }

    private static final class Tape {
        final int[] bytes = new int[BYTES];
        int size;

        void append(int b) {
            if (size < BYTES) {
                bytes[size] = b;
                size++;
            }
        }

        /** The byte at a place, or -1 behind the last one. */
        int byteAt(int place) {
            return place >= 0 && place < size ? bytes[place] : -1;
        }
    }

    /** Reads THE TAPE as a TEXT, a TOKEN at a time; it stays where the first FAULT is. */
    private static final class Reader {
        private static final int NO_FAULT = -1;
        private static final int END = 0;
        private static final int WORD = 1;
        private static final int NUMBER = 2;
        private static final int OTHER = 3;
        /** What a NUMBER above 999 counts as, however long it is: it fits nowhere. */
        private static final int TOO_MUCH = 1000;

        private final Tape tape;
        private int sort;
        private int begin;
        private int end;
        private int value;
        private int fault;

        Reader(Tape tape) {
            this.tape = tape;
        }

        /** How many ITEMS the garden got, or -1 less the FAULT (the garden is spoilt then). */
        int readInto(Garden garden) {
            fault = NO_FAULT;
            end = 0;
            findToken();
            int items = 0;
            boolean isMore = true;
            // an ITEM has a byte at least
            while (isMore && items <= BYTES) {
                if (takeWord("master")) {
                    readMaster(garden);
                } else {
                    readDial(garden);
                }
                items++;
                isMore = takeSign(';');
            }
            if (sort != END) {
                refuse();
            }
            return fault == NO_FAULT ? items : -1 - fault;
        }

        private void readMaster(Garden garden) {
            int d = takeNumber(garden.size - 1);
            int m = takeNumber(garden.size - 1);
            if (fault == NO_FAULT) {
                garden.masterOf[d] = m;
            }
        }

        private void readDial(Garden garden) {
            int kind = kindOfWord();
            if (kind < 0 || garden.isFull()) {
                refuse();
                return;
            }
            findToken();
            int d = garden.add(kind);
            if (takeWord("shows")) {
                garden.hourOf[d] = takeNumber(HOURS - 1);
            }
            if (takeWord("follows")) {
                garden.masterOf[d] = takeNumber(garden.size - 1);
            }
            if (takeWord("goes")) {
                int sign = takeSign('-') ? -1 : 1;
                garden.goingOf[d] = sign * takeNumber(FASTEST);
            }
            if (takeWord("moss")) {
                garden.mossOf[d] = takeNumber(MOSSIEST);
            }
            if (takeWord("stopped")) {
                garden.freeze(d);
            }
        }

        private void refuse() {
            if (fault == NO_FAULT) {
                fault = begin;
            }
        }

        private boolean takeWord(String word) {
            if (fault != NO_FAULT || !isWord(word)) {
                return false;
            }
            findToken();
            return true;
        }

        private boolean takeSign(char sign) {
            if (fault != NO_FAULT || sort != OTHER || tape.byteAt(begin) != sign) {
                return false;
            }
            findToken();
            return true;
        }

        private int takeNumber(int most) {
            if (fault != NO_FAULT || sort != NUMBER || value > most) {
                refuse();
                return 0;
            }
            int number = value;
            findToken();
            return number;
        }

        private boolean isWord(String word) {
            if (sort != WORD || end - begin != word.length()) {
                return false;
            }
            for (int i = 0; i < word.length(); i++) {
                if (tape.byteAt(begin + i) != word.charAt(i)) {
                    return false;
                }
            }
            return true;
        }

        private int kindOfWord() {
            for (int kind = 0; kind < UPPER_KIND.length; kind++) {
                if (isWord(wordOfKind(kind))) {
                    return kind;
                }
            }
            return -1;
        }

        private static String wordOfKind(int kind) {
            switch (kind) {
                case LATE:
                    return "late";
                case TWIN:
                    return "twin";
                case BACK:
                    return "back";
                case PROUD:
                    return "proud";
                case HALF:
                    return "half";
                case LATER:
                    return "later";
                default:
                    return "dial";
            }
        }

        /** Behind the last TOKEN stands END, as often as it is asked for. */
        private void findToken() {
            begin = end;
            while (begin < BYTES && tape.byteAt(begin) == ' ') {
                begin++;
            }
            end = begin;
            int first = tape.byteAt(begin);
            if (first < 0) {
                sort = END;
            } else if (isLetter(first)) {
                sort = WORD;
                readLetters();
            } else if (isDigit(first)) {
                sort = NUMBER;
                readDigits();
            } else {
                // a byte that begins no TOKEN fits nowhere, as a SIGN out of place
                sort = OTHER;
                end++;
            }
        }

        private void readLetters() {
            while (end < BYTES && isLetter(tape.byteAt(end))) {
                end++;
            }
        }

        private void readDigits() {
            value = 0;
            while (end < BYTES && isDigit(tape.byteAt(end))) {
                value = Math.min(TOO_MUCH, 10 * value + tape.byteAt(end) - '0');
                end++;
            }
        }

        private static boolean isLetter(int b) {
            return b >= 'a' && b <= 'z';
        }

        private static boolean isDigit(int b) {
            return b >= '0' && b <= '9';
        }
    }

    private static final class Sheet {
        final int[] numbers = new int[NUMBERS];
        /** 0: the sheet is MISSING. */
        int bits;
        int size;

        boolean isMissing() {
            return bits == 0;
        }

        void layOut(int newBits, int n) {
            bits = newBits;
            size = newBits == 0 ? 0 : n;
            for (int i = 0; i < NUMBERS; i++) {
                numbers[i] = 0;
            }
        }

        void put(int i, int v) {
            switch (bits) {
                case 8:
                    numbers[i] = (byte) v;
                    break;
                case 16:
                    numbers[i] = (short) v;
                    break;
                default:
                    numbers[i] = v;
                    break;
            }
        }

        /** Written without a sum, which could go round. */
        boolean hasPart(int from, int n) {
            return from >= 0 && n >= 0 && n <= size && from <= size - n;
        }
    }
}
