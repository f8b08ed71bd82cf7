/** A road in stretches, a tractor in front, and the cars behind it: who passes it, where, and at what cost. */
public final class BehindTractor {
    public static final int BAD = -1, STATE = -2, FULL = -3, NONE = -4;

    private static final int MOST_STRETCHES = 8, MOST_CARS = 6, MOST_SEEN = 6, MOST_GAP = 9;
    private static final int MOST_BYTES = 160, MOST_SHEETS = 4, MOST_CELLS = 40, MOST_READ = 20, MOST_IMAGES = 2;
    private static final int NEVER = 0, ONE = 1, BOLD = 2, FOLLOW = 3, TIMID = 4;
    private static final int NULL_FAULT = 1, INDEX_FAULT = 2, CAST_FAULT = 3, SIZE_FAULT = 4;

    private final Tape tape = new Tape();
    private final World live = new World();
    private final World trial = new World();
    private final World[] images = {new World(), new World()};
    private final Sheet[] sheets = {new Sheet(), new Sheet(), new Sheet(), new Sheet()};
    private final Arrivals arrivals = new Arrivals();
    private final Chances chances = new Chances();
    private int imagesKept;
    private int tornFault;

    public BehindTractor() {
    }

    // ---- the text, what there is

    public int feed(int c) {
        if (!within(c, 0, 127)) {
            return BAD;
        }
        return tape.add(c) ? tape.length : FULL;
    }

    public int end(int n) {
        if (!within(n, 0, tape.length)) {
            return BAD;
        }
        int had = tape.length;
        tape.length = n;
        return had;
    }

    public int text() {
        int lines = tape.tellAll();
        tape.length = 0;
        if (tape.faultFound != 0) {
            return -10 - tape.faultPlace;
        }
        live.takeFrom(tape.told);
        arrivals.seen = 0;
        imagesKept = 0;
        return lines;
    }

    public int fault() {
        return tape.faultFound;
    }

    public int rule(int what) {
        switch (what) {
            case 0: return live.stretches;
            case 1: return live.cars;
            case 2: return live.pace;
            case 3: return live.least;
            case 4: return live.at;
            case 5: return live.time;
            case 6: return live.gone;
            default: return BAD;
        }
    }

    public int road(int i, int what) {
        if (!isStretch(i)) {
            return BAD;
        }
        switch (what) {
            case 0: return live.miles[i];
            case 1: return live.sights[i];
            case 2: return live.gaps[i];
            case 3: return live.odds[i];
            case 4: return bit(live.hills, i);
            case 5: return bit(live.laybys, i);
            case 6: return bit(live.lanes, i);
            default: return BAD;
        }
    }

    public int car(int k, int what) {
        if (!isCar(k)) {
            return BAD;
        }
        switch (what) {
            case 0: return live.kinds[k];
            case 1: return live.needs[k];
            case 2: return live.paces[k];
            case 3: return live.times[k];
            case 4: return bit(live.gone, k);
            case 5: return live.behindAheadOf(k);
            default: return BAD;
        }
    }

    public int use(int i, int gap) {
        if (!isStretch(i) || !within(gap, 0, MOST_GAP)) {
            return BAD;
        }
        return live.ofUse(i, gap);
    }

    // ---- what is changed

    public int gap(int i, int v) {
        if (!isStretch(i) || !within(v, 0, MOST_GAP)) {
            return BAD;
        }
        return exchange(live.gaps, i, v);
    }

    public int sight(int i, int v) {
        if (!isStretch(i) || !within(v, 0, 9)) {
            return BAD;
        }
        return exchange(live.sights, i, v);
    }

    public int odd(int i, int v) {
        if (!isStretch(i) || !within(v, 0, 10)) {
            return BAD;
        }
        return exchange(live.odds, i, v);
    }

    public int build(int i, int what, boolean is) {
        if (!isStretch(i)) {
            return BAD;
        }
        int was;
        switch (what) {
            case 0:
                was = bit(live.laybys, i);
                live.laybys = withBit(live.laybys, i, is);
                return was;
            case 1:
                was = bit(live.lanes, i);
                live.lanes = withBit(live.lanes, i, is);
                return was;
            case 2:
                was = bit(live.hills, i);
                live.hills = withBit(live.hills, i, is);
                return was;
            default:
                return BAD;
        }
    }

    public int polite(int v) {
        if (!within(v, 0, MOST_CARS)) {
            return BAD;
        }
        int was = live.least;
        live.least = v;
        return was;
    }

    public int teach(int k, int kind, int need) {
        if (!isCar(k) || !within(kind, NEVER, TIMID) || !within(need, 1, 9)) {
            return BAD;
        }
        live.needs[k] = need;
        return exchange(live.kinds, k, kind);
    }

    // ---- stretches

    public int drive(int gap) {
        if (!within(gap, 0, MOST_GAP)) {
            return BAD;
        }
        return live.allHaveCome() ? STATE : live.driveOne(gap);
    }

    public int on() {
        return live.allHaveCome() ? STATE : live.driveOne(live.gaps[live.at]);
    }

    public int ahead(int k, int what) {
        if (!isCar(k) || !within(what, 0, 1)) {
            return BAD;
        }
        trial.takeFrom(live);
        if (what == 0) {
            trial.driveToEnd();
            return trial.times[k];
        }
        for (int i = live.at; i < live.stretches; i++) {
            if (bit(trial.driveOne(trial.gaps[i]), k) == 1) {
                return i;
            }
        }
        return NONE;
    }

    public int tail(int n) {
        if (!within(n, 0, MOST_STRETCHES)) {
            return BAD;
        }
        trial.takeFrom(live);
        int stop = Math.min(live.at + n, live.stretches);
        for (int i = live.at; i < stop; i++) {
            trial.driveOne(trial.gaps[i]);
        }
        return trial.behind(trial.gone);
    }

    public int lost() {
        trial.takeFrom(live);
        trial.gone = trial.everybody();
        int free = trial.driveToEnd();
        trial.takeFrom(live);
        return trial.driveToEnd() - free;
    }

    // ---- by odds

    public long past(int k, int what) {
        if (!isCar(k) || !within(what, 0, 1)) {
            return BAD;
        }
        chances.spread(live, live.stretches);
        return lowest(chances.weightOfGone(k), chances.whole, what);
    }

    public long mean(int k, int what) {
        if (!isCar(k) || !within(what, 0, 1)) {
            return BAD;
        }
        long sum = chances.weightedTime(live, k);
        return lowest(sum, chances.whole, what);
    }

    public long row(int what) {
        if (!within(what, 0, 1)) {
            return BAD;
        }
        chances.spread(live, live.stretches);
        long sum = 0;
        for (int k = 0; k < live.cars; k++) {
            sum += chances.whole - chances.weightOfGone(k);
        }
        return lowest(sum, chances.whole, what);
    }

    public long where(int k, int i, int what) {
        if (!isCar(k) || !isStretch(i) || i < live.at || !within(what, 0, 1)) {
            return BAD;
        }
        chances.spread(live, i);
        long before = chances.weightOfGone(k);
        chances.spreadOne(live, i);
        return lowest(chances.weightOfGone(k) - 10 * before, chances.whole, what);
    }

    // ---- what is to be done

    public int cost(int k) {
        if (!isCar(k)) {
            return BAD;
        }
        trial.takeFrom(live);
        int asIs = trial.driveToEnd() - trial.times[k];
        trial.takeFrom(live);
        trial.kinds[k] = BOLD;
        trial.needs[k] = 1;
        int ifBold = trial.driveToEnd() - trial.times[k];
        return 10000 + asIs - ifBold;
    }

    public int third(int what) {
        return within(what, 0, 1) ? bestPlace(true, what) : BAD;
    }

    public int layby(int what) {
        return within(what, 0, 1) ? bestPlace(false, what) : BAD;
    }

    public int fair(int what) {
        if (!within(what, 0, 1)) {
            return BAD;
        }
        int best = 0;
        int bestSum = 0;
        for (int least = 0; least <= MOST_CARS; least++) {
            trial.takeFrom(live);
            trial.least = least;
            int sum = trial.driveToEnd();
            if (least == 0 || sum < bestSum) {
                best = least;
                bestSum = sum;
            }
        }
        return what == 0 ? best : bestSum;
    }

    public int need(int k) {
        if (!isCar(k)) {
            return BAD;
        }
        if (bit(live.gone, k) == 1) {
            return STATE;
        }
        for (int need = 1; need <= 9; need++) {
            trial.takeFrom(live);
            trial.needs[k] = need;
            trial.driveToEnd();
            if (bit(trial.gone, k) == 0) {
                return need;
            }
        }
        return NONE;
    }

    public long dare(int v, int what) {
        if (!within(v, 0, 99) || !within(what, 0, 2)) {
            return BAD;
        }
        int k = live.firstBehind();
        if (k < 0) {
            return STATE;
        }
        long best = chances.bestDaring(live, k, v);
        return what == 2 ? chances.firstDared : lowest(best, chances.whole, what);
    }

    // ---- arrivals

    public int see(int k, int time) {
        if (!isCar(k) || !within(time, 0, 999)) {
            return BAD;
        }
        return arrivals.add(k, time) ? arrivals.seen : FULL;
    }

    public int forget(int n) {
        if (!within(n, 0, arrivals.seen)) {
            return BAD;
        }
        int had = arrivals.seen;
        arrivals.seen = n;
        return had;
    }

    public int fits(int what) {
        if (!within(what, 0, 3)) {
            return BAD;
        }
        arrivals.tryAllSets(live);
        if (what == 0) {
            return arrivals.fitting;
        }
        if (arrivals.fitting == 0) {
            return NONE;
        }
        if (what == 1) {
            return arrivals.leastSet;
        }
        return what == 2 ? arrivals.inAll : live.stretchesLeft() & ~arrivals.inSome;
    }

    public int could() {
        arrivals.tryAllSets(live);
        return arrivals.goneInSome;
    }

    // ---- by a seed

    public int drift(int seed, int what) {
        if (!within(what, 0, 1)) {
            return BAD;
        }
        trial.takeFrom(live);
        int grown = seed;
        for (int i = live.at; i < live.stretches; i++) {
            grown = grown * 1103515245 + 12345;
            trial.driveOne((grown >>> 16 & 0x7fff) % 10);
        }
        return what == 0 ? trial.sumOfTimes() : trial.gone;
    }

    // ---- images, sheets

    public int keep(int k) {
        if (!within(k, 0, MOST_IMAGES - 1)) {
            return BAD;
        }
        int was = bit(imagesKept, k);
        images[k].takeFrom(live);
        imagesKept = withBit(imagesKept, k, true);
        return was;
    }

    public int back(int k) {
        if (!within(k, 0, MOST_IMAGES - 1)) {
            return BAD;
        }
        if (bit(imagesKept, k) == 0) {
            return STATE;
        }
        live.takeFrom(images[k]);
        return live.at;
    }

    public int sheet(int k, int lane, int n) {
        if (!isSheet(k) || !isLane(lane) || n > MOST_CELLS) {
            return BAD;
        }
        if (n < 0) {
            return -10 - SIZE_FAULT;
        }
        sheets[k].begin(lane, n);
        return 1;
    }

    public int lay(int k, int i, int v) {
        if (!isSheet(k)) {
            return BAD;
        }
        Sheet sheet = sheets[k];
        int found = sheet.faultAt(sheet.lane, i);
        if (found != 0) {
            return -10 - found;
        }
        sheet.put(i, v);
        return 1;
    }

    public int read(int k, int lane, int f, int n) {
        if (!isSheet(k) || !isLane(lane) || !within(n, 0, MOST_READ)) {
            return BAD;
        }
        Sheet sheet = sheets[k];
        int found = 0;
        int driven = 0;
        trial.takeFrom(live);
        while (driven < n) {
            // f + driven can not wrap: a CELL too far ends the loop long before
            found = sheet.faultAt(lane, f + driven);
            if (found != 0) {
                break;
            }
            int gap = sheet.cells[f + driven];
            if (!within(gap, 0, MOST_GAP) || trial.allHaveCome()) {
                return -20 - driven;
            }
            trial.driveOne(gap);
            driven++;
        }
        live.takeFrom(trial);
        tornFault = found;
        return driven;
    }

    public int torn() {
        return tornFault;
    }

    public int count(int what) {
        switch (what) {
            case 0: return arrivals.seen;
            case 1: return Integer.bitCount(imagesKept);
            case 2: return tape.length;
            case 3: return sheets[0].size < 0 ? NONE : sheets[0].size;
            case 4: return Integer.bitCount(live.gone);
            case 5: return live.milesLeft();
            case 6: return live.sumOfTimes();
            default: return BAD;
        }
    }

    // ---- what the calls share

    private boolean isStretch(int i) {
        return within(i, 0, live.stretches - 1);
    }

    private boolean isCar(int k) {
        return within(k, 0, live.cars - 1);
    }

    private static boolean isSheet(int k) {
        return within(k, 0, MOST_SHEETS - 1);
    }

    private static boolean isLane(int lane) {
        return within(lane, 0, 2);
    }

    private static boolean within(int v, int low, int high) {
        return v >= low && v <= high;
    }

    private static int bit(int bits, int i) {
        return bits >> i & 1;
    }

    private static int withBit(int bits, int i, boolean is) {
        return is ? bits | 1 << i : bits & ~(1 << i);
    }

    private static int exchange(int[] cells, int i, int v) {
        int was = cells[i];
        cells[i] = v;
        return was;
    }

    /** The stretch where a third lane (or else a lay by) saves most, or how much it saves there. */
    private int bestPlace(boolean isLane, int what) {
        trial.takeFrom(live);
        int asIs = trial.driveToEnd();
        int best = NONE;
        int bestSaved = 0;
        for (int i = live.at; i < live.stretches; i++) {
            if (bit(isLane ? live.lanes : live.laybys, i) == 1) {
                continue;
            }
            trial.takeFrom(live);
            if (isLane) {
                trial.lanes = withBit(trial.lanes, i, true);
            } else {
                trial.laybys = withBit(trial.laybys, i, true);
                trial.least = 1;
            }
            int saved = asIs - trial.driveToEnd();
            if (saved > bestSaved) {
                best = i;
                bestSaved = saved;
            }
        }
        return what == 0 || best == NONE ? best : bestSaved;
    }

    /** One side of a fraction in lowest terms; the parts are never below 0 here. */
    private static long lowest(long numerator, long denominator, int what) {
        long a = numerator;
        long b = denominator;
        for (int turn = 0; turn < 200 && b != 0; turn++) {
            long rest = a % b;
            a = b;
            b = rest;
        }
        if (a <= 0) {
            return what == 0 ? numerator : denominator;
        }
        return what == 0 ? numerator / a : denominator / a;
    }

    /** The road, the tractor and the row: all that an image keeps. */
    private static final class World {
        final int[] miles = new int[MOST_STRETCHES];
        final int[] sights = new int[MOST_STRETCHES];
        final int[] gaps = new int[MOST_STRETCHES];
        final int[] odds = new int[MOST_STRETCHES];
        final int[] kinds = new int[MOST_CARS];
        final int[] needs = new int[MOST_CARS];
        final int[] paces = new int[MOST_CARS];
        final int[] times = new int[MOST_CARS];
        int stretches;
        int hills;
        int laybys;
        int lanes;
        int cars;
        int gone;
        int pace = 5;
        int least;
        int at;
        int time;

        void clear() {
            stretches = 0;
            hills = 0;
            laybys = 0;
            lanes = 0;
            cars = 0;
            gone = 0;
            pace = 5;
            least = 0;
            at = 0;
            time = 0;
            for (int i = 0; i < MOST_STRETCHES; i++) {
                odds[i] = 10;
            }
            for (int k = 0; k < MOST_CARS; k++) {
                times[k] = 0;
            }
        }

        void takeFrom(World from) {
            stretches = from.stretches;
            hills = from.hills;
            laybys = from.laybys;
            lanes = from.lanes;
            cars = from.cars;
            gone = from.gone;
            pace = from.pace;
            least = from.least;
            at = from.at;
            time = from.time;
            System.arraycopy(from.miles, 0, miles, 0, MOST_STRETCHES);
            System.arraycopy(from.sights, 0, sights, 0, MOST_STRETCHES);
            System.arraycopy(from.gaps, 0, gaps, 0, MOST_STRETCHES);
            System.arraycopy(from.odds, 0, odds, 0, MOST_STRETCHES);
            System.arraycopy(from.kinds, 0, kinds, 0, MOST_CARS);
            System.arraycopy(from.needs, 0, needs, 0, MOST_CARS);
            System.arraycopy(from.paces, 0, paces, 0, MOST_CARS);
            System.arraycopy(from.times, 0, times, 0, MOST_CARS);
        }

        int everybody() {
            return (1 << cars) - 1;
        }

        int behind(int past) {
            return everybody() & ~past;
        }

        int firstBehind() {
            for (int k = 0; k < cars; k++) {
                if (bit(gone, k) == 0) {
                    return k;
                }
            }
            return -1;
        }

        int behindAheadOf(int k) {
            return bit(gone, k) == 1 ? 0 : Integer.bitCount(behind(gone) & (1 << k) - 1);
        }

        boolean allHaveCome() {
            return at >= stretches;
        }

        int stretchesLeft() {
            return (1 << stretches) - (1 << at);
        }

        int milesLeft() {
            int sum = 0;
            for (int i = at; i < stretches; i++) {
                sum += miles[i];
            }
            return sum;
        }

        int sumOfTimes() {
            int sum = 0;
            for (int k = 0; k < cars; k++) {
                sum += times[k];
            }
            return sum;
        }

        int ofUse(int i, int gap) {
            if (bit(lanes, i) == 1) {
                return MOST_GAP;
            }
            int seen = Math.max(0, sights[i] - bit(hills, i));
            return Math.min(gap, seen);
        }

        /** The cars that come past in a stretch, if those in past are so already. */
        int comers(int i, int gap, int past) {
            int row = behind(past);
            if (bit(laybys, i) == 1 && least != 0 && Integer.bitCount(row) >= least) {
                return row;
            }
            int useful = ofUse(i, gap);
            int come = 0;
            int inFront = 0;
            for (int k = 0; k < cars; k++) {
                if (bit(row, k) == 0) {
                    continue;
                }
                boolean led = k > 0 && bit(come, k - 1) == 1;
                if (passes(k, useful, inFront, led)) {
                    come |= 1 << k;
                } else {
                    inFront++;
                }
            }
            return come;
        }

        /** Whether a car passes, with so many cars in front of it; led: the car told ahead of it has just passed. */
        boolean passes(int k, int useful, int inFront, boolean led) {
            int need = needs[k];
            switch (kinds[k]) {
                case ONE: return inFront == 0 && useful >= need;
                case BOLD: return useful >= need * (inFront + 1);
                case FOLLOW: return inFront == 0 && (led || useful >= need);
                case TIMID: return inFront == 0 && useful >= 2 * need;
                default: return false;
            }
        }

        int minutes(int i, int k, int past) {
            return miles[i] * (bit(past, k) == 1 ? paces[k] : pace);
        }

        int driveOne(int gap) {
            int come = comers(at, gap, gone);
            gone |= come;
            for (int k = 0; k < cars; k++) {
                times[k] += minutes(at, k, gone);
            }
            time += miles[at] * pace;
            at++;
            return come;
        }

        /** The sum of all times of cars, when all have come. */
        int driveToEnd() {
            for (int i = at; i < stretches; i++) {
                driveOne(gaps[i]);
            }
            return sumOfTimes();
        }
    }

    /** The bytes of a text, which are read, token by token, into a world. */
    private static final class Tape {
        private static final int END = 0, NAME = 1, NUMBER = 2, STOP = 3;
        final byte[] bytes = new byte[MOST_BYTES];
        final World told = new World();
        int length;
        int faultFound;
        int faultPlace;
        int next;
        int token;
        int start;
        int value;
        int slows;
        int hillsTold;
        int oddsTold;
        int laybysTold;
        int lanesTold;

        boolean add(int c) {
            if (length >= MOST_BYTES) {
                return false;
            }
            bytes[length] = (byte) c;
            length++;
            return true;
        }

        /** How many lines were told; what a fault leaves in the world is not to be used. */
        int tellAll() {
            told.clear();
            faultFound = 0;
            faultPlace = 0;
            next = 0;
            slows = 0;
            hillsTold = 0;
            oddsTold = 0;
            laybysTold = 0;
            lanesTold = 0;
            int lines = 0;
            while (lines <= length) {
                if (!advance()) {
                    return lines;
                }
                if (token == END) {
                    break;
                }
                if (!tellLine()) {
                    return lines;
                }
                lines++;
            }
            checkStretches();
            return lines;
        }

        private void checkStretches() {
            int named = hillsTold | oddsTold | laybysTold | lanesTold;
            if (named >> told.stretches != 0) {
                refuse(6, length);
            }
            told.hills = hillsTold;
            told.laybys = laybysTold;
            told.lanes = lanesTold;
        }

        private boolean refuse(int fault, int place) {
            faultFound = fault;
            faultPlace = place;
            return false;
        }

        private boolean advance() {
            while (next < length && bytes[next] == ' ') {
                next++;
            }
            start = next;
            if (next >= length) {
                token = END;
                return true;
            }
            if (bytes[next] == ';') {
                token = STOP;
                next++;
                return true;
            }
            if (isLetter(bytes[next])) {
                token = NAME;
                while (next < length && isLetter(bytes[next])) {
                    next++;
                }
                return true;
            }
            token = NUMBER;
            value = 0;
            while (next < length && isFigure(bytes[next])) {
                value = value * 10 + bytes[next] - '0';
                next++;
            }
            int figures = next - start;
            return within(figures, 1, 2) || refuse(1, start);
        }

        private static boolean isLetter(int c) {
            return c >= 'a' && c <= 'z';
        }

        private static boolean isFigure(int c) {
            return c >= '0' && c <= '9';
        }

        private boolean says(String name) {
            if (token != NAME || next - start != name.length()) {
                return false;
            }
            for (int i = 0; i < name.length(); i++) {
                if (bytes[start + i] != name.charAt(i)) {
                    return false;
                }
            }
            return true;
        }

        private boolean tellLine() {
            if (says("road")) {
                return tellRoad();
            }
            if (says("car")) {
                return tellCar();
            }
            if (says("slow")) {
                return tellSlow();
            }
            if (says("odds")) {
                oddsTold = stretchMore(oddsTold);
                return faultFound == 0 && tellOdds(value);
            }
            if (says("hill")) {
                hillsTold = stretchMore(hillsTold);
                return faultFound == 0 && stops();
            }
            if (says("layby")) {
                laybysTold = stretchMore(laybysTold);
                return faultFound == 0 && stops();
            }
            if (says("lane")) {
                lanesTold = stretchMore(lanesTold);
                return faultFound == 0 && stops();
            }
            return refuse(2, start);
        }

        private boolean stops() {
            if (!advance()) {
                return false;
            }
            return token == STOP || refuse(2, start);
        }

        /** Whether a number within its bounds comes next; value has it then. */
        private boolean numbered(int low, int high) {
            if (!advance()) {
                return false;
            }
            if (token != NUMBER) {
                return refuse(2, start);
            }
            return within(value, low, high) || refuse(3, start);
        }

        /** The bits and that of the stretch whose number comes next; value has it, unless there is a fault. */
        private int stretchMore(int bits) {
            if (!numbered(0, MOST_STRETCHES - 1)) {
                return bits;
            }
            if (bit(bits, value) == 1) {
                refuse(4, start);
                return bits;
            }
            return bits | 1 << value;
        }

        private boolean tellRoad() {
            int i = told.stretches;
            if (i >= MOST_STRETCHES) {
                return refuse(5, start);
            }
            if (!numbered(1, 9)) {
                return false;
            }
            told.miles[i] = value;
            if (!numbered(0, 9)) {
                return false;
            }
            told.sights[i] = value;
            if (!numbered(0, MOST_GAP)) {
                return false;
            }
            told.gaps[i] = value;
            told.stretches++;
            return stops();
        }

        private boolean tellOdds(int i) {
            if (!numbered(0, 10)) {
                return false;
            }
            told.odds[i] = value;
            return stops();
        }

        private boolean tellSlow() {
            if (slows > 0) {
                return refuse(4, start);
            }
            slows++;
            if (!numbered(1, 9)) {
                return false;
            }
            told.pace = value;
            if (!numbered(0, MOST_CARS)) {
                return false;
            }
            told.least = value;
            return stops();
        }

        private boolean tellCar() {
            int k = told.cars;
            if (k >= MOST_CARS) {
                return refuse(5, start);
            }
            if (!advance()) {
                return false;
            }
            int kind = kindSaid();
            if (kind < 0) {
                return refuse(2, start);
            }
            told.kinds[k] = kind;
            if (!numbered(1, 9)) {
                return false;
            }
            told.needs[k] = value;
            if (!numbered(1, 5)) {
                return false;
            }
            told.paces[k] = value;
            told.cars++;
            return stops();
        }

        private int kindSaid() {
            if (says("never")) {
                return NEVER;
            }
            if (says("one")) {
                return ONE;
            }
            if (says("bold")) {
                return BOLD;
            }
            if (says("follow")) {
                return FOLLOW;
            }
            return says("timid") ? TIMID : -1;
        }
    }

    /** What comes by odds. A share of something is its weight by the whole, which is a power of ten. */
    private static final class Chances {
        private static final int ROWS = 1 << MOST_CARS;
        /** By the set of cars that are past: who is past is all that later stretches depend on. */
        final long[] weights = new long[ROWS];
        final long[] later = new long[ROWS];
        long whole;
        int firstDared;

        void spread(World w, int upTo) {
            begin(w);
            for (int i = w.at; i < upTo; i++) {
                spreadOne(w, i);
            }
        }

        private void begin(World w) {
            for (int set = 0; set < ROWS; set++) {
                weights[set] = 0;
            }
            weights[w.gone] = 1;
            whole = 1;
        }

        void spreadOne(World w, int i) {
            int sets = 1 << w.cars;
            for (int set = 0; set < sets; set++) {
                later[set] = 0;
            }
            for (int set = 0; set < sets; set++) {
                if (weights[set] != 0) {
                    later[set | w.comers(i, w.gaps[i], set)] += weights[set] * w.odds[i];
                    later[set | w.comers(i, 0, set)] += weights[set] * (10 - w.odds[i]);
                }
            }
            System.arraycopy(later, 0, weights, 0, sets);
            whole *= 10;
        }

        long weightOfGone(int k) {
            long sum = 0;
            for (int set = 0; set < ROWS; set++) {
                if (bit(set, k) == 1) {
                    sum += weights[set];
                }
            }
            return sum;
        }

        /** The mean of a car's time at the end, times the whole. */
        long weightedTime(World w, int k) {
            begin(w);
            long sum = w.times[k];
            for (int i = w.at; i < w.stretches; i++) {
                spreadOne(w, i);
                long free = weightOfGone(k);
                sum = sum * 10 + w.miles[i] * (free * w.paces[k] + (whole - free) * w.pace);
            }
            return sum;
        }

        /** The greatest mean, times the whole, of what a car alone gains by daring at a risk; from the last one back. */
        long bestDaring(World w, int k, int risk) {
            long best = 0;
            int saved = 0;
            whole = 1;
            firstDared = NONE;
            for (int i = w.stretches - 1; i >= w.at; i--) {
                saved += w.miles[i] * (w.pace - w.paces[k]);
                int tenths = tenthsToPass(w, i, k);
                long wait = 10 * best;
                long go = (tenths * saved - 10 * risk) * whole + (10 - tenths) * best;
                whole *= 10;
                if (go > wait) {
                    firstDared = i;
                }
                best = Math.max(go, wait);
            }
            return best;
        }

        private static int tenthsToPass(World w, int i, int k) {
            if (w.passes(k, w.ofUse(i, 0), 0, false)) {
                return 10;
            }
            return w.passes(k, w.ofUse(i, w.gaps[i]), 0, false) ? w.odds[i] : 0;
        }
    }

    /** Who was seen to come when, and the sets of gaps that fit it. */
    private static final class Arrivals {
        private static final int LEVELS = MOST_STRETCHES + 1;
        final int[] seenCars = new int[MOST_SEEN];
        final int[] seenTimes = new int[MOST_SEEN];
        final int[] pasts = new int[LEVELS];
        final int[] sets = new int[LEVELS];
        final int[][] times = new int[LEVELS][MOST_CARS];
        int seen;
        int fitting;
        int leastSet;
        int inAll;
        int inSome;
        int goneInSome;

        boolean add(int k, int time) {
            if (seen >= MOST_SEEN) {
                return false;
            }
            seenCars[seen] = k;
            seenTimes[seen] = time;
            seen++;
            return true;
        }

        void tryAllSets(World w) {
            fitting = 0;
            leastSet = 0;
            inAll = w.stretchesLeft();
            inSome = 0;
            goneInSome = 0;
            pasts[0] = w.gone;
            sets[0] = 0;
            System.arraycopy(w.times, 0, times[0], 0, MOST_CARS);
            int left = w.stretches - w.at;
            for (int turn = 0; turn < 1 << left; turn++) {
                // the last stretch changes most often, so the levels ahead of the first change still stand
                int from = turn == 0 ? 0 : left - 1 - Integer.numberOfTrailingZeros(turn);
                for (int level = from; level < left; level++) {
                    goDown(w, level, bit(turn, left - 1 - level));
                }
                judge(pasts[left], sets[left], times[left]);
            }
        }

        private void goDown(World w, int level, int there) {
            int i = w.at + level;
            int past = pasts[level] | w.comers(i, there * w.gaps[i], pasts[level]);
            pasts[level + 1] = past;
            sets[level + 1] = sets[level] | there << i;
            for (int k = 0; k < w.cars; k++) {
                times[level + 1][k] = times[level][k] + w.minutes(i, k, past);
            }
        }

        private void judge(int past, int set, int[] endTimes) {
            for (int n = 0; n < seen; n++) {
                if (endTimes[seenCars[n]] != seenTimes[n]) {
                    return;
                }
            }
            leastSet = fitting == 0 ? set : Math.min(leastSet, set);
            fitting++;
            inAll &= set;
            inSome |= set;
            goneInSome |= past;
        }
    }

    /** A row of cells, of bytes (lane 0), shorts (1) or ints (2), or nothing. */
    private static final class Sheet {
        final int[] cells = new int[MOST_CELLS];
        int lane;
        int size = -1;

        void begin(int newLane, int newSize) {
            lane = newLane;
            size = newSize;
            for (int i = 0; i < MOST_CELLS; i++) {
                cells[i] = 0;
            }
        }

        /** What the machine would find, were cell i asked of a row of that lane; 0: nothing. */
        int faultAt(int asLane, int i) {
            if (size < 0) {
                return NULL_FAULT;
            }
            if (asLane != lane) {
                return CAST_FAULT;
            }
            return within(i, 0, size - 1) ? 0 : INDEX_FAULT;
        }

        void put(int i, int v) {
            if (lane == 0) {
                cells[i] = (byte) v;
            } else if (lane == 1) {
                cells[i] = (short) v;
            } else {
                cells[i] = v;
            }
        }
    }
}
