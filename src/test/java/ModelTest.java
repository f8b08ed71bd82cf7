import java.math.BigInteger;
import java.util.ArrayList;
import java.util.Arrays;
import java.util.List;
import java.util.Random;
import java.util.regex.Matcher;
import java.util.regex.Pattern;

/** Long runs of calls by fixed seeds, each answer against a slow model that is written another way. */
public final class ModelTest {
    private static final int BAD = -1, STATE = -2, FULL = -3, NONE = -4;
    private static final int RUNS = 1500, CALLS = 510;
    private static final List<String> KINDS = List.of("never", "one", "bold", "follow", "timid");
    private static final String[] CALL_NAMES = {"feed", "end", "text", "fault", "rule", "road", "car", "use", "gap", "sight",
        "odd", "build", "polite", "teach", "drive", "on", "ahead", "tail", "lost", "past", "mean", "row", "where", "cost",
        "third", "layby", "fair", "need", "dare", "see", "forget", "fits", "could", "drift", "keep", "back", "sheet", "lay",
        "read", "torn", "count"};

    private static final class Stretch {
        int miles, sight, gap, odds = 10;
        boolean hill, layby, lane;

        Stretch copy() {
            Stretch s = new Stretch();
            s.miles = miles;
            s.sight = sight;
            s.gap = gap;
            s.odds = odds;
            s.hill = hill;
            s.layby = layby;
            s.lane = lane;
            return s;
        }

        int use(int came) {
            return lane ? 9 : Math.min(came, Math.max(0, hill ? sight - 1 : sight));
        }
    }

    private static final class Car {
        int kind, need, pace, time, where = NONE;
        boolean past;

        Car copy() {
            Car c = new Car();
            c.kind = kind;
            c.need = need;
            c.pace = pace;
            c.time = time;
            c.past = past;
            return c;
        }
    }

    private static final class State {
        List<Stretch> road = new ArrayList<>();
        List<Car> row = new ArrayList<>();
        int pace = 5, least, at, time;

        State copy() {
            State s = new State();
            for (Stretch r : road) {
                s.road.add(r.copy());
            }
            for (Car c : row) {
                s.row.add(c.copy());
            }
            s.pace = pace;
            s.least = least;
            s.at = at;
            s.time = time;
            return s;
        }

        boolean over() {
            return at == road.size();
        }

        List<Car> behind() {
            return row.stream().filter(c -> !c.past).toList();
        }

        int bits(boolean past) {
            int bits = 0;
            for (int k = 0; k < row.size(); k++) {
                bits += row.get(k).past == past ? 1 << k : 0;
            }
            return bits;
        }

        int sum() {
            return row.stream().mapToInt(c -> c.time).sum();
        }

        int drive(int came) {
            Stretch s = road.get(at);
            int before = bits(true);
            if (s.layby && least > 0 && behind().size() >= least) {
                behind().forEach(c -> c.past = true);
            } else {
                passByOrder(s.use(came));
            }
            for (Car c : row) {
                c.time += s.miles * (c.past ? c.pace : pace);
            }
            int come = bits(true) - before;
            for (int k = 0; k < row.size(); k++) {
                if ((come >> k & 1) == 1) {
                    row.get(k).where = at;
                }
            }
            time += s.miles * pace;
            at++;
            return come;
        }

        private void passByOrder(int use) {
            List<Car> justPassed = new ArrayList<>();
            for (int k = 0; k < row.size(); k++) {
                Car c = row.get(k);
                if (c.past) {
                    continue;
                }
                List<Car> before = row.subList(0, k).stream().filter(o -> !o.past).toList();
                boolean right = k > 0 && justPassed.contains(row.get(k - 1));
                boolean goes = false;
                if (c.kind == 2) {
                    goes = use >= c.need * (before.size() + 1);
                } else if (before.isEmpty()) {
                    goes = c.kind == 1 && use >= c.need || c.kind == 3 && (use >= c.need || right)
                            || c.kind == 4 && use >= 2 * c.need;
                }
                if (goes) {
                    c.past = true;
                    justPassed.add(c);
                }
            }
        }

        State toEnd() {
            State s = copy();
            while (!s.over()) {
                s.drive(s.road.get(s.at).gap);
            }
            return s;
        }
    }

    /** One way in which the gaps may come: its set, its share in tenths by stretch, and how all ends. */
    private static final class Way {
        final int set;
        final BigInteger share;
        final State end;

        Way(int set, BigInteger share, State end) {
            this.set = set;
            this.share = share;
            this.end = end;
        }
    }

    private static final class Model {
        State s = new State();
        StringBuilder tape = new StringBuilder();
        int fault, torn;
        List<int[]> seen = new ArrayList<>();
        State[] images = new State[2];
        Object[] sheets = new Object[4];

        boolean noStretch(int i) {
            return i < 0 || i >= s.road.size();
        }

        boolean noCar(int k) {
            return k < 0 || k >= s.row.size();
        }

        static boolean out(int v, int low, int high) {
            return v < low || v > high;
        }

        List<Way> ways() {
            List<Way> ways = new ArrayList<>();
            ways.add(new Way(0, BigInteger.ONE, s.copy()));
            for (int i = s.at; i < s.road.size(); i++) {
                List<Way> more = new ArrayList<>();
                for (Way w : ways) {
                    for (int there = 0; there < 2; there++) {
                        State next = w.end.copy();
                        for (int k = 0; k < next.row.size(); k++) {
                            next.row.get(k).where = w.end.row.get(k).where;
                        }
                        Stretch r = s.road.get(i);
                        next.drive(there == 1 ? r.gap : 0);
                        more.add(new Way(w.set | there << i, w.share.multiply(BigInteger.valueOf(there == 1 ? r.odds : 10 - r.odds)), next));
                    }
                }
                ways = more;
            }
            return ways;
        }

        long side(BigInteger num, int what) {
            return side(num, BigInteger.TEN.pow(s.road.size() - s.at), what);
        }

        static long side(BigInteger num, BigInteger den, int what) {
            BigInteger g = num.gcd(den);
            return (what == 0 ? num : den).divide(g).longValueExact();
        }

        int feed(int c) {
            if (out(c, 0, 127)) return BAD;
            if (tape.length() == 160) return FULL;
            tape.append((char) c);
            return tape.length();
        }

        int end(int n) {
            if (out(n, 0, tape.length())) return BAD;
            int had = tape.length();
            tape.setLength(n);
            return had;
        }

        int text() {
            Told t = new Told(tape.toString());
            tape.setLength(0);
            fault = t.fault;
            if (fault != 0) return -10 - t.place;
            s = t.state;
            seen.clear();
            images = new State[2];
            return t.lines;
        }

        int rule(int what) {
            if (out(what, 0, 6)) return BAD;
            return new int[] {s.road.size(), s.row.size(), s.pace, s.least, s.at, s.time, s.bits(true)}[what];
        }

        int road(int i, int what) {
            if (noStretch(i) || out(what, 0, 6)) return BAD;
            Stretch r = s.road.get(i);
            return new int[] {r.miles, r.sight, r.gap, r.odds, r.hill ? 1 : 0, r.layby ? 1 : 0, r.lane ? 1 : 0}[what];
        }

        int car(int k, int what) {
            if (noCar(k) || out(what, 0, 5)) return BAD;
            Car c = s.row.get(k);
            int before = c.past ? 0 : (int) s.row.subList(0, k).stream().filter(o -> !o.past).count();
            return new int[] {c.kind, c.need, c.pace, c.time, c.past ? 1 : 0, before}[what];
        }

        int use(int i, int gap) {
            return noStretch(i) || out(gap, 0, 9) ? BAD : s.road.get(i).use(gap);
        }

        int change(int i, int v, int what) {
            if (noStretch(i) || out(v, 0, what == 2 ? 10 : 9)) return BAD;
            Stretch r = s.road.get(i);
            int was = what == 0 ? r.gap : what == 1 ? r.sight : r.odds;
            if (what == 0) r.gap = v;
            if (what == 1) r.sight = v;
            if (what == 2) r.odds = v;
            return was;
        }

        int build(int i, int what, boolean is) {
            if (noStretch(i) || out(what, 0, 2)) return BAD;
            Stretch r = s.road.get(i);
            boolean was = what == 0 ? r.layby : what == 1 ? r.lane : r.hill;
            if (what == 0) r.layby = is;
            if (what == 1) r.lane = is;
            if (what == 2) r.hill = is;
            return was ? 1 : 0;
        }

        int polite(int v) {
            if (out(v, 0, 6)) return BAD;
            int was = s.least;
            s.least = v;
            return was;
        }

        int teach(int k, int kind, int need) {
            if (noCar(k) || out(kind, 0, 4) || out(need, 1, 9)) return BAD;
            Car c = s.row.get(k);
            int was = c.kind;
            c.kind = kind;
            c.need = need;
            return was;
        }

        int drive(int gap) {
            return out(gap, 0, 9) ? BAD : s.over() ? STATE : s.drive(gap);
        }

        int on() {
            return s.over() ? STATE : s.drive(s.road.get(s.at).gap);
        }

        int ahead(int k, int what) {
            if (noCar(k) || out(what, 0, 1)) return BAD;
            Car c = s.toEnd().row.get(k);
            return what == 0 ? c.time : c.where;
        }

        int tail(int n) {
            if (out(n, 0, 8)) return BAD;
            State t = s.copy();
            for (int i = 0; i < n; i++) {
                if (!t.over()) t.drive(t.road.get(t.at).gap);
            }
            return t.bits(false);
        }

        int lost() {
            int miles = count(5);
            return s.toEnd().sum() - s.row.stream().mapToInt(c -> c.time + c.pace * miles).sum();
        }

        long past(int k, int what) {
            if (noCar(k) || out(what, 0, 1)) return BAD;
            BigInteger sum = BigInteger.ZERO;
            for (Way w : ways()) if (w.end.row.get(k).past) sum = sum.add(w.share);
            return side(sum, what);
        }

        long mean(int k, int what) {
            if (noCar(k) || out(what, 0, 1)) return BAD;
            BigInteger sum = BigInteger.ZERO;
            for (Way w : ways()) sum = sum.add(w.share.multiply(BigInteger.valueOf(w.end.row.get(k).time)));
            return side(sum, what);
        }

        long row(int what) {
            if (out(what, 0, 1)) return BAD;
            BigInteger sum = BigInteger.ZERO;
            for (Way w : ways()) sum = sum.add(w.share.multiply(BigInteger.valueOf(w.end.behind().size())));
            return side(sum, what);
        }

        long where(int k, int i, int what) {
            if (noCar(k) || noStretch(i) || i < s.at || out(what, 0, 1)) return BAD;
            BigInteger sum = BigInteger.ZERO;
            for (Way w : ways()) {
                if (!s.row.get(k).past && w.end.row.get(k).where == i) sum = sum.add(w.share);
            }
            return side(sum, what);
        }

        int cost(int k) {
            if (noCar(k)) return BAD;
            State is = s.toEnd();
            State t = s.copy();
            t.row.get(k).kind = 2;
            t.row.get(k).need = 1;
            t = t.toEnd();
            int less = 0;
            for (int o = 0; o < s.row.size(); o++) {
                if (o != k) less += is.row.get(o).time - t.row.get(o).time;
            }
            return 10000 + less;
        }

        int best(boolean lane, int what) {
            if (out(what, 0, 1)) return BAD;
            int place = NONE, most = 0;
            for (int i = s.road.size() - 1; i >= s.at; i--) {
                State t = s.copy();
                Stretch r = t.road.get(i);
                if (lane ? r.lane : r.layby) continue;
                if (lane) r.lane = true; else r.layby = true;
                if (!lane) t.least = 1;
                int saved = s.toEnd().sum() - t.toEnd().sum();
                if (saved > 0 && saved >= most) {
                    most = saved;
                    place = i;
                }
            }
            return place == NONE || what == 0 ? place : most;
        }

        int fair(int what) {
            if (out(what, 0, 1)) return BAD;
            int best = 6, sum = Integer.MAX_VALUE;
            for (int v = 6; v >= 0; v--) {
                State t = s.copy();
                t.least = v;
                int got = t.toEnd().sum();
                if (got <= sum) {
                    sum = got;
                    best = v;
                }
            }
            return what == 0 ? best : sum;
        }

        int need(int k) {
            if (noCar(k)) return BAD;
            if (s.row.get(k).past) return STATE;
            for (int v = 1; v < 10; v++) {
                State t = s.copy();
                t.row.get(k).need = v;
                if (!t.toEnd().row.get(k).past) return v;
            }
            return NONE;
        }

        /** All plans are tried: a set of stretches in which to dare while behind. */
        long dare(int v, int what) {
            if (out(v, 0, 99) || out(what, 0, 2)) return BAD;
            if (s.behind().isEmpty()) return STATE;
            Car c = s.behind().get(0);
            int left = s.road.size() - s.at;
            BigInteger den = BigInteger.TEN.pow(left), best = null;
            int bestPlan = 0;
            for (int plan = 0; plan < 1 << left; plan++) {
                BigInteger got = worth(plan, s.at, c, v);
                if (best == null || got.compareTo(best) > 0) {
                    best = got;
                    bestPlan = plan;
                } else if (got.equals(best) && laterFirst(plan, bestPlan)) {
                    bestPlan = plan;
                }
            }
            if (what == 2) return bestPlan == 0 ? NONE : s.at + Integer.numberOfTrailingZeros(bestPlan);
            return side(best, den, what);
        }

        /** Of plans that are worth the same the one that dares less early: to dare only where that is better. */
        static boolean laterFirst(int plan, int other) {
            int a = plan == 0 ? 99 : Integer.numberOfTrailingZeros(plan);
            int b = other == 0 ? 99 : Integer.numberOfTrailingZeros(other);
            return a > b;
        }

        BigInteger worth(int plan, int i, Car c, int v) {
            if (i == s.road.size()) return BigInteger.ZERO;
            BigInteger wait = worth(plan, i + 1, c, v);
            if ((plan >> i - s.at & 1) == 0) return wait.multiply(BigInteger.TEN);
            BigInteger scale = BigInteger.TEN.pow(s.road.size() - i - 1);
            int saved = 0;
            for (int j = i; j < s.road.size(); j++) saved += s.road.get(j).miles * (s.pace - c.pace);
            Stretch r = s.road.get(i);
            BigInteger sum = BigInteger.ZERO;
            for (int there = 0; there < 2; there++) {
                int use = r.use(there == 1 ? r.gap : 0);
                boolean enough = c.kind != 0 && use >= (c.kind == 4 ? 2 * c.need : c.need);
                BigInteger then = enough ? scale.multiply(BigInteger.valueOf(saved)) : wait;
                then = then.subtract(scale.multiply(BigInteger.valueOf(v)));
                sum = sum.add(then.multiply(BigInteger.valueOf(there == 1 ? r.odds : 10 - r.odds)));
            }
            return sum;
        }

        int see(int k, int time) {
            if (noCar(k) || out(time, 0, 999)) return BAD;
            if (seen.size() == 6) return FULL;
            seen.add(new int[] {k, time});
            return seen.size();
        }

        int forget(int n) {
            if (out(n, 0, seen.size())) return BAD;
            int had = seen.size();
            seen = new ArrayList<>(seen.subList(0, n));
            return had;
        }

        List<Way> fitting() {
            return ways().stream().filter(w -> seen.stream().allMatch(x -> w.end.row.get(x[0]).time == x[1])).toList();
        }

        int fits(int what) {
            if (out(what, 0, 3)) return BAD;
            List<Way> all = fitting();
            if (what == 0) return all.size();
            if (all.isEmpty()) return NONE;
            if (what == 1) return all.stream().mapToInt(w -> w.set).min().getAsInt();
            int bits = 0;
            for (int i = s.at; i < s.road.size(); i++) {
                int b = i;
                boolean same = all.stream().allMatch(w -> (w.set >> b & 1) == (what == 2 ? 1 : 0));
                bits |= same ? 1 << i : 0;
            }
            return bits;
        }

        int could() {
            return fitting().stream().mapToInt(w -> w.end.bits(true)).reduce(0, (a, b) -> a | b);
        }

        int drift(int seed, int what) {
            if (out(what, 0, 1)) return BAD;
            State t = s.copy();
            BigInteger x = BigInteger.valueOf(seed & 0xffffffffL);
            while (!t.over()) {
                x = x.multiply(BigInteger.valueOf(1103515245L)).add(BigInteger.valueOf(12345));
                t.drive(x.shiftRight(16).mod(BigInteger.valueOf(32768)).mod(BigInteger.TEN).intValue());
            }
            return what == 0 ? t.sum() : t.bits(true);
        }

        int keep(int k) {
            if (out(k, 0, 1)) return BAD;
            int was = images[k] == null ? 0 : 1;
            images[k] = s.copy();
            return was;
        }

        int back(int k) {
            if (out(k, 0, 1)) return BAD;
            if (images[k] == null) return STATE;
            s = images[k].copy();
            return s.at;
        }

        int sheet(int k, int lane, int n) {
            if (out(k, 0, 3) || out(lane, 0, 2) || n > 40) return BAD;
            try {
                sheets[k] = lane == 0 ? new byte[n] : lane == 1 ? new short[n] : (Object) new int[n];
                return 1;
            } catch (NegativeArraySizeException e) {
                return -14;
            }
        }

        int lay(int k, int i, int v) {
            if (out(k, 0, 3)) return BAD;
            try {
                if (sheets[k] instanceof byte[] b) b[i] = (byte) v;
                else if (sheets[k] instanceof short[] b) b[i] = (short) v;
                else ((int[]) sheets[k])[i] = v;
                return 1;
            } catch (NullPointerException e) {
                return -11;
            } catch (ArrayIndexOutOfBoundsException e) {
                return -12;
            }
        }

        int read(int k, int lane, int f, int n) {
            if (out(k, 0, 3) || out(lane, 0, 2) || out(n, 0, 20)) return BAD;
            State t = s.copy();
            int done = 0, found = 0;
            try {
                for (; done < n; done++) {
                    int v = lane == 0 ? ((byte[]) sheets[k])[f + done] : lane == 1 ? ((short[]) sheets[k])[f + done]
                            : ((int[]) sheets[k])[f + done];
                    if (out(v, 0, 9) || t.over()) return -20 - done;
                    t.drive(v);
                }
            } catch (NullPointerException e) {
                found = 1;
            } catch (ArrayIndexOutOfBoundsException e) {
                found = 2;
            } catch (ClassCastException e) {
                found = 3;
            }
            s = t;
            torn = found;
            return done;
        }

        int count(int what) {
            switch (what) {
                case 0: return seen.size();
                case 1: return (images[0] == null ? 0 : 1) + (images[1] == null ? 0 : 1);
                case 2: return tape.length();
                case 3: return sheets[0] == null ? NONE : java.lang.reflect.Array.getLength(sheets[0]);
                case 4: return s.row.size() - s.behind().size();
                case 5: return s.road.stream().skip(s.at).mapToInt(r -> r.miles).sum();
                case 6: return s.sum();
                default: return BAD;
            }
        }

        long call(String name, int[] a, boolean is) {
            switch (name) {
                case "feed": return feed(a[0]);
                case "end": return end(a[0]);
                case "text": return text();
                case "fault": return fault;
                case "rule": return rule(a[0]);
                case "road": return road(a[0], a[1]);
                case "car": return car(a[0], a[1]);
                case "use": return use(a[0], a[1]);
                case "gap": return change(a[0], a[1], 0);
                case "sight": return change(a[0], a[1], 1);
                case "odd": return change(a[0], a[1], 2);
                case "build": return build(a[0], a[1], is);
                case "polite": return polite(a[0]);
                case "teach": return teach(a[0], a[1], a[2]);
                case "drive": return drive(a[0]);
                case "on": return on();
                case "ahead": return ahead(a[0], a[1]);
                case "tail": return tail(a[0]);
                case "lost": return lost();
                case "past": return past(a[0], a[1]);
                case "mean": return mean(a[0], a[1]);
                case "row": return row(a[0]);
                case "where": return where(a[0], a[1], a[2]);
                case "cost": return cost(a[0]);
                case "third": return best(true, a[0]);
                case "layby": return best(false, a[0]);
                case "fair": return fair(a[0]);
                case "need": return need(a[0]);
                case "dare": return dare(a[0], a[1]);
                case "see": return see(a[0], a[1]);
                case "forget": return forget(a[0]);
                case "fits": return fits(a[0]);
                case "could": return could();
                case "drift": return drift(a[0], a[1]);
                case "keep": return keep(a[0]);
                case "back": return back(a[0]);
                case "sheet": return sheet(a[0], a[1], a[2]);
                case "lay": return lay(a[0], a[1], a[2]);
                case "read": return read(a[0], a[1], a[2], a[3]);
                case "torn": return torn;
                default: return count(a[0]);
            }
        }
    }

    /** A text by a table of forms: each line is a NAME and the bounds of what follows it. */
    private static final class Told {
        private static final Pattern TOKEN = Pattern.compile("[a-z]+|[0-9]+|;");
        private static final List<String> LINES = List.of("road", "hill", "odds", "layby", "lane", "slow", "car");
        private static final int[][][] BOUNDS = {{{1, 9}, {0, 9}, {0, 9}}, {{0, 7}}, {{0, 7}, {0, 10}}, {{0, 7}}, {{0, 7}},
            {{1, 9}, {0, 6}}, {{-1, 4}, {1, 9}, {1, 5}}};
        final State state = new State();
        final String text;
        final List<int[]> marks = new ArrayList<>();
        int fault, place, lines, at, start;

        Told(String text) {
            this.text = text;
            try {
                while (true) {
                    String name = token();
                    if (name.isEmpty()) break;
                    line(name);
                    lines++;
                }
                marks();
            } catch (IllegalStateException e) {
                lines = 0;
            }
        }

        IllegalStateException faulty(int what, int where) {
            fault = what;
            place = where;
            return new IllegalStateException();
        }

        String token() {
            while (at < text.length() && text.charAt(at) == ' ') at++;
            start = at;
            if (at == text.length()) return "";
            Matcher m = TOKEN.matcher(text).region(at, text.length());
            if (!m.lookingAt() || Character.isDigit(text.charAt(at)) && m.end() - at > 2) throw faulty(1, at);
            at = m.end();
            return m.group();
        }

        void line(String name) {
            int form = LINES.indexOf(name);
            if (form < 0) throw faulty(2, start);
            long slows = marks.stream().filter(m -> m[0] == 5).count();
            if (form == 5 && slows > 0) throw faulty(4, start);
            if (form == 0 && state.road.size() == 8 || form == 6 && state.row.size() == 6) throw faulty(5, start);
            int[] got = new int[BOUNDS[form].length + 1];
            got[0] = form;
            for (int n = 1; n < got.length; n++) {
                got[n] = value(BOUNDS[form][n - 1]);
                boolean ofStretch = form >= 1 && form <= 4 && n == 1;
                if (ofStretch && marks.stream().anyMatch(m -> m[0] == got[0] && m[1] == got[1])) throw faulty(4, start);
            }
            if (!token().equals(";")) throw faulty(2, start);
            if (form == 0) {
                Stretch r = new Stretch();
                r.miles = got[1];
                r.sight = got[2];
                r.gap = got[3];
                state.road.add(r);
            } else if (form == 6) {
                Car c = new Car();
                c.kind = got[1];
                c.need = got[2];
                c.pace = got[3];
                state.row.add(c);
            } else {
                marks.add(got);
            }
        }

        int value(int[] bounds) {
            String t = token();
            if (bounds[0] < 0) {
                if (!KINDS.contains(t)) throw faulty(2, start);
                return KINDS.indexOf(t);
            }
            if (!t.matches("[0-9]+")) throw faulty(2, start);
            int v = Integer.parseInt(t);
            if (v < bounds[0] || v > bounds[1]) throw faulty(3, start);
            return v;
        }

        void marks() {
            for (int[] m : marks) {
                if (m[0] == 5) {
                    state.pace = m[1];
                    state.least = m[2];
                    continue;
                }
                if (m[1] >= state.road.size()) throw faulty(6, text.length());
                Stretch r = state.road.get(m[1]);
                if (m[0] == 1) r.hill = true;
                if (m[0] == 2) r.odds = m[2];
                if (m[0] == 3) r.layby = true;
                if (m[0] == 4) r.lane = true;
            }
        }
    }

    private static long real(BehindTractor x, String name, int[] a, boolean is) {
        switch (name) {
            case "feed": return x.feed(a[0]);
            case "end": return x.end(a[0]);
            case "text": return x.text();
            case "fault": return x.fault();
            case "rule": return x.rule(a[0]);
            case "road": return x.road(a[0], a[1]);
            case "car": return x.car(a[0], a[1]);
            case "use": return x.use(a[0], a[1]);
            case "gap": return x.gap(a[0], a[1]);
            case "sight": return x.sight(a[0], a[1]);
            case "odd": return x.odd(a[0], a[1]);
            case "build": return x.build(a[0], a[1], is);
            case "polite": return x.polite(a[0]);
            case "teach": return x.teach(a[0], a[1], a[2]);
            case "drive": return x.drive(a[0]);
            case "on": return x.on();
            case "ahead": return x.ahead(a[0], a[1]);
            case "tail": return x.tail(a[0]);
            case "lost": return x.lost();
            case "past": return x.past(a[0], a[1]);
            case "mean": return x.mean(a[0], a[1]);
            case "row": return x.row(a[0]);
            case "where": return x.where(a[0], a[1], a[2]);
            case "cost": return x.cost(a[0]);
            case "third": return x.third(a[0]);
            case "layby": return x.layby(a[0]);
            case "fair": return x.fair(a[0]);
            case "need": return x.need(a[0]);
            case "dare": return x.dare(a[0], a[1]);
            case "see": return x.see(a[0], a[1]);
            case "forget": return x.forget(a[0]);
            case "fits": return x.fits(a[0]);
            case "could": return x.could();
            case "drift": return x.drift(a[0], a[1]);
            case "keep": return x.keep(a[0]);
            case "back": return x.back(a[0]);
            case "sheet": return x.sheet(a[0], a[1], a[2]);
            case "lay": return x.lay(a[0], a[1], a[2]);
            case "read": return x.read(a[0], a[1], a[2], a[3]);
            case "torn": return x.torn();
            default: return x.count(a[0]);
        }
    }

    private static final class Run {
        private final Random r;
        private final BehindTractor x = new BehindTractor();
        private final Model m = new Model();
        private final List<String> log = new ArrayList<>();
        private int calls;

        Run(long seed) {
            r = new Random(seed);
        }

        boolean goes() {
            while (calls < CALLS) {
                boolean same = r.nextInt(120) == 0 || calls == 0 ? tellText() : callAny();
                if (!same) {
                    System.out.println(String.join("\n", log.subList(Math.max(0, log.size() - 40), log.size())));
                    return false;
                }
            }
            return true;
        }

        private boolean callAny() {
            String name = CALL_NAMES[r.nextInt(CALL_NAMES.length)];
            boolean rare = List.of("text", "feed", "end", "on", "drive", "read").contains(name);
            if (rare && r.nextInt(6) != 0 || name.equals("text") && r.nextInt(10) != 0) {
                return true;
            }
            int[] a = usual(name);
            for (int i = 0; i < a.length; i++) {
                if (r.nextInt(20) == 0) a[i] = far();
            }
            if (name.equals("see")) seenArguments(a);
            if (name.equals("sheet") || name.equals("lay") || name.equals("read")) sheetArguments(name, a);
            return call(name, a);
        }

        /** Arguments within their bounds, where there are any. */
        private int[] usual(String name) {
            int i = m.s.road.isEmpty() ? 0 : r.nextInt(m.s.road.size());
            int k = m.s.row.isEmpty() ? 0 : r.nextInt(m.s.row.size());
            int left = m.s.over() ? 0 : m.s.at + r.nextInt(m.s.road.size() - m.s.at);
            switch (name) {
                case "feed": return new int[] {r.nextInt(128), 0, 0, 0};
                case "end": return new int[] {r.nextInt(m.tape.length() + 1), 0, 0, 0};
                case "rule": case "count": return new int[] {r.nextInt(7), 0, 0, 0};
                case "road": return new int[] {i, r.nextInt(7), 0, 0};
                case "car": return new int[] {k, r.nextInt(6), 0, 0};
                case "use": case "gap": case "sight": return new int[] {i, r.nextInt(10), 0, 0};
                case "odd": return new int[] {i, r.nextInt(11), 0, 0};
                case "build": return new int[] {i, r.nextInt(3), 0, 0};
                case "polite": return new int[] {r.nextInt(7), 0, 0, 0};
                case "teach": return new int[] {k, r.nextInt(5), 1 + r.nextInt(1 + r.nextInt(9)), 0};
                case "drive": return new int[] {r.nextInt(10), 0, 0, 0};
                case "tail": return new int[] {r.nextInt(9), 0, 0, 0};
                case "where": return new int[] {k, left, r.nextInt(2), 0};
                case "row": case "third": case "layby": case "fair": return new int[] {r.nextInt(2), 0, 0, 0};
                case "dare": return new int[] {r.nextInt(1 + r.nextInt(100)), r.nextInt(3), 0, 0};
                case "forget": return new int[] {r.nextInt(m.seen.size() + 1), 0, 0, 0};
                case "fits": return new int[] {r.nextInt(4), 0, 0, 0};
                case "drift": return new int[] {r.nextInt(), r.nextInt(2), 0, 0};
                case "keep": case "back": return new int[] {r.nextInt(2), 0, 0, 0};
                default: return new int[] {k, r.nextInt(2), 0, 0};
            }
        }

        private void seenArguments(int[] a) {
            if (!m.s.row.isEmpty() && r.nextInt(4) != 0) {
                List<Way> ways = m.ways();
                a[0] = r.nextInt(m.s.row.size());
                a[1] = ways.get(r.nextInt(ways.size())).end.row.get(a[0]).time;
            }
        }

        private void sheetArguments(String name, int[] a) {
            a[0] = r.nextInt(40) == 0 ? far() : r.nextInt(4);
            if (name.equals("sheet")) {
                a[1] = r.nextInt(10) == 0 ? far() : r.nextInt(3);
                a[2] = r.nextInt(50) - 4;
            } else if (name.equals("lay")) {
                a[1] = r.nextInt(12) - 1;
                a[2] = r.nextInt(8) == 0 ? r.nextInt() : r.nextInt(8) == 0 ? 256 * 256 + 5 : r.nextInt(10);
            } else {
                Object s = a[0] >= 0 && a[0] < 4 ? m.sheets[a[0]] : null;
                int lane = s instanceof byte[] ? 0 : s instanceof short[] ? 1 : 2;
                a[1] = r.nextInt(5) == 0 ? far() : lane;
                a[2] = r.nextInt(10) == 0 ? far() : r.nextInt(8);
                a[3] = r.nextInt(10) == 0 ? far() : r.nextInt(4);
            }
        }

        private int far() {
            int[] far = {-1, 0, 1, 2, 3, 4, 5, 6, 7, 8, 9, 10, 11, 20, 21, 99, 100, 999, 1000, Integer.MIN_VALUE, Integer.MAX_VALUE};
            return far[r.nextInt(far.length)];
        }

        private boolean call(String name, int[] a) {
            boolean is = r.nextBoolean();
            long want = m.call(name, a, is);
            long got = real(x, name, a, is);
            calls++;
            log.add(name + Arrays.toString(a) + " " + is + " answered " + got + ", due is " + want);
            return got == want;
        }

        private boolean tellText() {
            boolean same = call("end", new int[] {0, 0, 0, 0});
            String text = someText();
            for (int i = 0; i < text.length(); i++) {
                same &= call("feed", new int[] {text.charAt(i), 0, 0, 0});
            }
            same &= call("text", new int[] {0, 0, 0, 0});
            same &= call("fault", new int[] {0, 0, 0, 0});
            for (int i = 0; i < m.s.road.size(); i++) {
                if (r.nextInt(3) != 0) same &= call("odd", new int[] {i, r.nextInt(11), 0, 0});
            }
            for (int k = 1; k < 4; k++) {
                same &= call("sheet", new int[] {k, r.nextInt(3), r.nextInt(12), 0});
                for (int i = 0; i < 6; i++) same &= call("lay", new int[] {k, i, r.nextInt(10), 0});
            }
            return same;
        }

        private String someText() {
            List<String> lines = new ArrayList<>();
            int roads = Math.max(r.nextInt(9), r.nextInt(9)), cars = Math.max(r.nextInt(7), r.nextInt(7));
            int room = 160;
            for (int i = 0; i < roads; i++) {
                room -= add(lines, room, "road " + (1 + r.nextInt(9)) + " " + (2 + r.nextInt(8)) + " " + r.nextInt(10) + ";");
            }
            for (int k = 0; k < cars; k++) {
                String need = " " + (1 + r.nextInt(1 + r.nextInt(9))) + " ";
                room -= add(lines, room, "car " + KINDS.get(r.nextInt(5)) + need + (1 + r.nextInt(5)) + ";");
            }
            if (r.nextBoolean()) room -= add(lines, room, "slow " + (1 + r.nextInt(9)) + " " + r.nextInt(7) + ";");
            for (int i = 0; i < roads; i++) {
                if (r.nextInt(2) == 0) room -= add(lines, room, "odds " + i + " " + r.nextInt(11) + ";");
                if (r.nextInt(9) == 0) room -= add(lines, room, "hill " + i + ";");
                if (r.nextInt(9) == 0) room -= add(lines, room, "layby " + i + ";");
                if (r.nextInt(12) == 0) room -= add(lines, room, "lane " + i + ";");
            }
            if (r.nextInt(20) == 0 && !lines.isEmpty()) room -= add(lines, room, lines.get(r.nextInt(lines.size())));
            java.util.Collections.shuffle(lines, r);
            StringBuilder b = new StringBuilder(String.join("", lines));
            if (r.nextInt(4) == 0) spoil(b);
            return b.toString();
        }

        private static int add(List<String> lines, int room, String line) {
            if (line.length() > room) return 0;
            lines.add(line);
            return line.length();
        }

        private void spoil(StringBuilder b) {
            String some = "0123456789 ;acdehilnorstvwyz A-\t";
            for (int n = r.nextInt(3); n >= 0; n--) {
                int i = r.nextInt(b.length() + 1);
                int how = r.nextInt(3);
                char c = some.charAt(r.nextInt(some.length()));
                if (how == 0) b.insert(i, c);
                else if (i < b.length() && how == 1) b.setCharAt(i, c);
                else if (i < b.length()) b.deleteCharAt(i);
            }
        }
    }

    public static void main(String[] args) {
        int runs = args.length > 0 ? Integer.parseInt(args[0]) : RUNS;
        for (int seed = 0; seed < runs; seed++) {
            if (!new Run(seed).goes()) {
                System.out.println("run " + seed + " is not as the model");
                System.exit(1);
            }
        }
        System.out.println(runs + " runs are as the model");
    }
}
