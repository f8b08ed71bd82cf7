import java.lang.reflect.InvocationTargetException;
import java.lang.reflect.Method;
import java.util.ArrayList;
import java.util.HashMap;
import java.util.HashSet;
import java.util.List;
import java.util.Map;
import java.util.Set;

/**
 * Each sentence of the document that names a boundary, with calls of its own: "drive(10) = BAD".
 * A call that only asks, or that is refused, must leave all as it was: that is looked at behind each such line.
 */
public final class BoundariesTest {
    private static final Set<String> ASKING = Set.of("fault", "rule", "road", "car", "use", "ahead", "tail", "lost", "past", "mean",
        "row", "where", "cost", "third", "layby", "fair", "need", "dare", "fits", "could", "drift", "torn", "count");
    private static final Map<String, Long> WORDS = Map.of("BAD", -1L, "STATE", -2L, "FULL", -3L, "NONE", -4L,
        "MIN", (long) Integer.MIN_VALUE, "MAX", (long) Integer.MAX_VALUE);
    private static final Map<String, Method> CALLS = new HashMap<>();
    private static final Set<String> CALLED = new HashSet<>();
    private static final String NO_TEXT = null;
    private static final String ROAD = "road 2 5 3;road 3 9 8;slow 6 3;car one 3 2;car never 1 1;odds 1 5;hill 1;layby 0;lane 1;";
    private static final String FULLEST = "road9 9 0;".repeat(8) + "slow9 0;" + "car one9 5;".repeat(6);
    private static final String[][] LINES = {{"road", "1", "2", "3", ";"}, {"hill", "0", ";"}, {"odds", "0", "1", ";"},
        {"layby", "0", ";"}, {"lane", "0", ";"}, {"slow", "1", "1", ";"}, {"car", "one", "1", "1", ";"}};
    private static int wrong = 0;

    // ---- how a sentence is held against the class

    /** An object, and how many of its 512 calls have been made. */
    private static final class User {
        final BehindTractor x = new BehindTractor();
        int calls;

        long call(String name, Object... arguments) {
            calls++;
            CALLED.add(name);
            try {
                return ((Number) CALLS.get(name).invoke(x, arguments)).longValue();
            } catch (InvocationTargetException e) {
                throw new IllegalStateException(name + " threw", e.getCause());
            } catch (IllegalAccessException e) {
                throw new IllegalStateException(name, e);
            }
        }

        long feedAll(String bytes) {
            long has = 0;
            for (int i = 0; i < bytes.length(); i++) {
                has = call("feed", (int) bytes.charAt(i));
            }
            return has;
        }

        /** A call as it is written; tell(..) feeds a text and takes it, bytes(..) feeds alone. */
        long written(String line) {
            String name = line.substring(0, line.indexOf('('));
            String inside = line.substring(line.indexOf('(') + 1, line.lastIndexOf(')'));
            if (name.equals("bytes")) {
                return feedAll(inside);
            }
            if (name.equals("tell")) {
                feedAll(inside);
                return call("text");
            }
            Class<?>[] types = CALLS.get(name).getParameterTypes();
            String[] parts = inside.isEmpty() ? new String[0] : inside.split(", *");
            Object[] arguments = new Object[types.length];
            for (int i = 0; i < types.length; i++) {
                arguments[i] = types[i] == boolean.class ? (Object) Boolean.valueOf(parts[i]) : (Object) (int) number(parts[i]);
            }
            return call(name, arguments);
        }

        String all() {
            StringBuilder seen = new StringBuilder();
            world(seen);
            for (int what = 0; what < 5; what++) {
                seen.append(what < 4 ? call("fits", what) : call("could")).append(' ');
            }
            seen.append(call("torn")).append(' ');
            for (int k = 0; k < 4; k++) {
                sheet(seen, k);
            }
            for (int k = 0; k < 2; k++) {
                seen.append("image ").append(call("back", k)).append(' ').append(call("rule", 6)).append(' ').append(call("count", 6));
            }
            return seen.append(" tape ").append(call("text")).append(' ').append(call("fault")).toString();
        }

        private void world(StringBuilder seen) {
            for (int what = 0; what < 7; what++) {
                seen.append(call("rule", what)).append(' ').append(call("count", what)).append(' ');
            }
            for (int i = 0; i < call("rule", 0); i++) {
                for (int what = 0; what < 7; what++) {
                    seen.append(call("road", i, what)).append(' ');
                }
            }
            for (int k = 0; k < call("rule", 1); k++) {
                for (int what = 0; what < 5; what++) {
                    seen.append(call("car", k, what)).append(' ');
                }
            }
        }

        private void sheet(StringBuilder seen, int k) {
            seen.append("sheet ");
            for (int lane = 0; lane < 3; lane++) {
                seen.append(call("read", k, lane, 0, 1)).append(' ').append(call("torn")).append(' ');
            }
            int low = 0;
            int high = 41;
            while (low < high) {
                int middle = (low + high) / 2;
                if (call("lay", k, middle, 0) == 1) {
                    low = middle + 1;
                } else {
                    high = middle;
                }
            }
            seen.append(low).append(' ');
        }
    }

    private static long number(String s) {
        return WORDS.containsKey(s) ? WORDS.get(s) : Long.parseLong(s);
    }

    private static void fails(String sentence, String why) {
        wrong++;
        System.out.println(sentence + ": " + why);
    }

    private static void due(String sentence, String call, long got, long want) {
        if (got != want) {
            fails(sentence, call + " answered " + got + ", due is " + want);
        }
    }

    /** p/q is asked as what 0 and what 1, written as one call without them. */
    private static List<String> asCalls(String... lines) {
        List<String> calls = new ArrayList<>();
        for (String line : lines) {
            int is = line.lastIndexOf(" = ");
            String want = is < 0 ? "" : line.substring(is + 3);
            int by = want.indexOf('/');
            if (by < 0) {
                calls.add(line);
                continue;
            }
            String open = line.substring(0, line.lastIndexOf(')', is));
            String comma = open.endsWith("(") ? "" : ", ";
            calls.add(open + comma + "0) = " + want.substring(0, by));
            calls.add(open + comma + "1) = " + want.substring(by + 1));
        }
        return calls;
    }

    private static String callOf(String line) {
        int is = line.lastIndexOf(" = ");
        return is < 0 ? line : line.substring(0, is);
    }

    private static void holds(String sentence, String text, String... lines) {
        User user = new User();
        List<String> before = new ArrayList<>();
        if (text != null) {
            before.add("tell(" + text + ")");
            if (user.written(before.get(0)) < 0) {
                fails(sentence, "its text was refused");
            }
        }
        for (String line : asCalls(lines)) {
            String call = callOf(line);
            long got = user.written(call);
            if (!call.equals(line)) {
                due(sentence, call, got, number(line.substring(call.length() + 3)));
            }
            String name = call.substring(0, call.indexOf('('));
            if (ASKING.contains(name) || got < 0) {
                leavesAll(sentence, before, call);
            }
            before.add(call);
        }
        if (user.calls > 512) {
            fails(sentence, "more than 512 calls were made");
        }
    }

    private static void leavesAll(String sentence, List<String> before, String call) {
        boolean isText = call.startsWith("tell") || call.startsWith("text");
        User with = new User();
        User without = new User();
        for (String line : before) {
            with.written(line);
            without.written(line);
        }
        with.written(call);
        if (isText) {
            without.call("end", 0);
        }
        String changed = with.all();
        if (!changed.equals(without.all())) {
            fails(sentence, call + " changed what there was");
        }
        if (with.calls > 512) {
            fails(sentence, "more than 512 calls to look at " + call);
        }
    }

    private static void refused(String sentence, String text, int fault, int place) {
        holds(sentence + " [" + text + "]", ROAD, "drive(3)", "keep(0)", "see(0, 5)",
            "tell(" + text + ") = " + (-10 - place), "fault() = " + fault, "count(2) = 0");
    }

    private static void taken(String sentence, String text, int lines, String... calls) {
        String[] all = new String[calls.length + 3];
        all[0] = "tell(" + text + ") = " + lines;
        all[1] = "fault() = 0";
        all[2] = "count(2) = 0";
        System.arraycopy(calls, 0, all, 3, calls.length);
        holds(sentence + " [" + text + "]", ROAD, all);
    }

    private static String joined(String... tokens) {
        return String.join(" ", tokens);
    }

    // ---- the answers

    private static void answers() {
        holds("BAD, STATE: the first that fits", "road 1 9 9;car one 1 1;", "on() = 1", "drive(10) = BAD", "drive(-1) = BAD",
            "drive(9) = STATE", "dare(100, 0) = BAD", "dare(0, 3) = BAD", "dare(0, 0) = STATE", "back(2) = BAD", "back(1) = STATE",
            "need(1) = BAD", "need(0) = STATE");
        holds("BAD, FULL: the first that fits", "car one 1 1;", "bytes(" + " ".repeat(160) + ") = 160", "feed(128) = BAD",
            "feed(32) = FULL", "see(0, 1)", "see(0, 1)", "see(0, 1)", "see(0, 1)", "see(0, 1)", "see(0, 1) = 6", "see(1, 1) = BAD",
            "see(0, 1000) = BAD", "see(0, 1) = FULL");
        holds("BAD, NONE: the first that fits", "road 1 0 0;car never 1 1;", "see(0, 999)", "fits(4) = BAD", "fits(1) = NONE",
            "third(2) = BAD", "third(0) = NONE", "polite(1)", "build(0, 0, true)", "layby(2) = BAD", "layby(1) = NONE",
            "ahead(1, 1) = BAD", "ahead(0, 2) = BAD");
        holds("STATE, NONE: the first that fits", "road 1 9 9;layby 0;slow 5 1;car one 1 1;", "need(0) = NONE", "on() = 1",
            "need(0) = STATE", "dare(0, 2) = STATE");
        holds("BAD is ahead of what the machine finds", NO_TEXT, "sheet(4, 0, -1) = BAD", "sheet(0, 3, -1) = BAD",
            "lay(4, 0, 0) = BAD", "lay(-1, 0, 0) = BAD", "read(0, 0, 0, 21) = BAD", "torn() = 0", "read(0, 3, 0, 1) = BAD", "torn() = 0");
        holds("Fractions are in lowest terms", "road 1 9 5;car one 5 1;", "past(0) = 1/1", "odd(0, 8)", "past(0) = 4/5", "odd(0, 5)",
            "past(0) = 1/2", "odd(0, 4)", "past(0) = 2/5", "mean(0) = 17/5", "row() = 3/5", "where(0, 0) = 2/5", "dare(0) = 8/5",
            "odd(0, 3)", "past(0) = 3/10");
        holds("0 is 0 by 1", "road 1 9 5;odds 0 0;car one 5 1;", "past(0) = 0/1", "where(0, 0) = 0/1", "dare(0) = 0/1", "odd(0, 10)",
            "row() = 0/1");
        holds("0 is 0 by 1, of TIMES", "car one 5 1;", "mean(0) = 0/1", "dare(5) = 0/1");
    }

    // ---- stretches, cars, the tape

    private static void stretchesAndCars() {
        taken("MILES 1, SIGHT 0, GAP 0 to 9 each", "road 1 0 0;road 9 9 9;", 2, "rule(0) = 2", "road(0, 0) = 1", "road(0, 1) = 0",
            "road(0, 2) = 0", "road(1, 0) = 9", "road(1, 1) = 9", "road(1, 2) = 9");
        taken("ODDS of it (0 to 10 tenths; 10)", "road 1 1 1;road 1 1 1;road 1 1 1;odds 0 0;odds 2 10;", 5, "road(0, 3) = 0",
            "road(1, 3) = 10", "road(2, 3) = 10");
        taken("uphill, a LAY BY, a THIRD LANE or none (none at first)", "road 1 1 1;road 1 1 1;", 2, "road(0, 4) = 0",
            "road(0, 5) = 0", "road(0, 6) = 0", "road(1, 4) = 0", "road(1, 5) = 0", "road(1, 6) = 0", "road(0, 3) = 10", "road(1, 3) = 10");
        taken("hill, layby, lane each of its own", "road 1 1 1;road 1 1 1;road 1 1 1;hill 0;layby 1;lane 2;", 6, "road(0, 4) = 1",
            "road(0, 5) = 0", "road(0, 6) = 0", "road(1, 4) = 0", "road(1, 5) = 1", "road(1, 6) = 0", "road(2, 4) = 0",
            "road(2, 5) = 0", "road(2, 6) = 1");
        taken("PACE of THE TRACTOR is 5, LEAST 0", "", 0, "rule(2) = 5", "rule(3) = 0", "rule(0) = 0", "rule(1) = 0");
        taken("PACE of THE TRACTOR 1, LEAST 0", "slow 1 0;", 1, "rule(2) = 1", "rule(3) = 0");
        taken("PACE of THE TRACTOR 9, LEAST 6", "slow 9 6;", 1, "rule(2) = 9", "rule(3) = 6");
        taken("NEED 1 to 9, PACE of its own 1 to 5", "car one 1 1;car one 9 5;", 2, "rule(1) = 2", "car(0, 1) = 1", "car(0, 2) = 1",
            "car(1, 1) = 9", "car(1, 2) = 5");
        taken("KINDS 0 never, 1 one, 2 bold, 3 follow, 4 timid", "car timid 1 1;car follow 1 1;car bold 1 1;car one 1 1;car never 1 1;", 5,
            "car(0, 0) = 4", "car(1, 0) = 3", "car(2, 0) = 2", "car(3, 0) = 1", "car(4, 0) = 0");
        taken("STRETCHES (8 at most), CARS (6 at most)", FULLEST, 15, "rule(0) = 8", "rule(1) = 6", "road(7, 0) = 9", "car(5, 2) = 5",
            "road(7, 3) = 10", "road(8, 0) = BAD", "car(6, 0) = BAD");
        holds("THE TIME (0 at first), STRETCH (0 at first; behind the last one all have come)", FULLEST, "rule(4) = 0", "rule(5) = 0",
            "on() = 0", "on() = 0", "on() = 0", "on() = 0", "on() = 0", "on() = 0", "on() = 0", "rule(4) = 7", "on() = 0", "rule(4) = 8",
            "rule(5) = 648", "car(5, 3) = 648", "count(6) = 3888", "on() = STATE", "drive(0) = STATE");
    }

    private static void newObject() {
        holds("1 No road, no CARS; SHEETS have nothing", NO_TEXT, "rule(0) = 0", "rule(1) = 0", "rule(2) = 5", "rule(3) = 0",
            "rule(4) = 0", "rule(5) = 0", "rule(6) = 0", "road(0, 0) = BAD", "car(0, 0) = BAD", "use(0, 0) = BAD", "lay(0, 0, 0) = -11",
            "lay(1, 0, 0) = -11", "lay(2, 0, 0) = -11", "lay(3, 0, 0) = -11", "count(0) = 0", "count(1) = 0", "count(2) = 0",
            "count(3) = NONE", "count(4) = 0", "count(5) = 0", "count(6) = 0", "fault() = 0", "torn() = 0");
        holds("1 nothing to change, to drive, to ask of", NO_TEXT, "gap(0, 0) = BAD", "sight(0, 0) = BAD", "odd(0, 0) = BAD",
            "build(0, 0, true) = BAD", "teach(0, 0, 1) = BAD", "drive(0) = STATE", "on() = STATE", "ahead(0, 0) = BAD", "tail(0) = 0",
            "tail(8) = 0", "lost() = 0", "past(0, 0) = BAD", "mean(0, 0) = BAD", "row() = 0/1", "where(0, 0, 0) = BAD", "cost(0) = BAD",
            "need(0) = BAD", "dare(0, 0) = STATE", "see(0, 0) = BAD", "forget(0) = 0");
        holds("1 nothing is left, one empty set fits", NO_TEXT, "third(0) = NONE", "third(1) = NONE", "layby(0) = NONE",
            "layby(1) = NONE", "fair(0) = 0", "fair(1) = 0", "fits(0) = 1", "fits(1) = 0", "fits(2) = 0", "fits(3) = 0", "could() = 0",
            "drift(MAX, 0) = 0", "drift(MIN, 1) = 0", "back(0) = STATE", "back(1) = STATE", "text() = 0", "polite(6) = 0", "polite(0) = 6");
    }

    private static void tape() {
        holds("2 A byte (0 to 127)", NO_TEXT, "feed(-1) = BAD", "feed(0) = 1", "feed(127) = 2", "feed(128) = BAD", "feed(256) = BAD",
            "feed(MIN) = BAD", "feed(MAX) = BAD", "count(2) = 2");
        holds("2 FULL: more than 160", NO_TEXT, "bytes(" + "a".repeat(159) + ") = 159", "feed(97) = 160", "feed(97) = FULL",
            "feed(32) = FULL", "end(159) = 160", "feed(97) = 160", "feed(97) = FULL", "count(2) = 160");
        holds("3 first n bytes of an empty TAPE", NO_TEXT, "end(0) = 0", "end(1) = BAD", "end(-1) = BAD", "end(MIN) = BAD", "end(MAX) = BAD");
        holds("3 first n bytes: all, some, none", NO_TEXT, "bytes(abc) = 3", "end(4) = BAD", "end(160) = BAD", "end(3) = 3", "end(1) = 3",
            "end(2) = BAD", "end(1) = 1", "end(0) = 1", "end(0) = 0");
        holds("3 of a full TAPE", NO_TEXT, "bytes(" + " ".repeat(160) + ") = 160", "end(161) = BAD", "end(160) = 160", "end(0) = 160");
        holds("3 keeps its FIRST bytes", NO_TEXT, "bytes(road 1 1 12) = 11", "end(10) = 11", "feed(59) = 11", "text() = 1", "road(0, 2) = 1");
        holds("3 bytes behind them are gone", NO_TEXT, "bytes(hill 0;) = 7", "end(4) = 7", "text() = -14", "fault() = 2");
        holds("4 THE TAPE (empty then)", NO_TEXT, "bytes(slow 1 1;) = 9", "text() = 1", "count(2) = 0", "end(1) = BAD", "bytes(@) = 1",
            "text() = -10", "count(2) = 0", "end(1) = BAD", "feed(32) = 1");
        taken("4 how many lines: none", "", 0);
        taken("4 how many lines: none, of blanks", " ".repeat(160), 0);
        taken("4 how many lines: those of a full TAPE", "road 9 9 9;".repeat(8) + "car one 1 1;".repeat(6), 14);
        refused("4 -10 less the place: 0", "a".repeat(160), 2, 0);
        refused("4 -10 less the place: 159", " ".repeat(159) + "@", 1, 159);
        refused("4 -10 less the place: the length of a full TAPE", " ".repeat(156) + "road", 2, 160);
        holds("4 a text that is taken tells all, in place of what there was", ROAD, "drive(3)", "see(0, 5)", "keep(0)", "keep(1)",
            "tell(road 1 1 1;car one 1 1;) = 2", "rule(0) = 1", "rule(1) = 1", "rule(4) = 0", "rule(5) = 0", "rule(6) = 0", "car(0, 3) = 0",
            "car(0, 4) = 0", "count(0) = 0", "count(1) = 0", "back(0) = STATE", "back(1) = STATE");
        holds("4 TIMES are 0, nobody is PAST, whatever was asked before", FULLEST, "gap(7, 9)", "on()", "ahead(5, 0) = 612", "lost() = 1296",
            "tell(" + FULLEST + ") = 15", "rule(4) = 0", "rule(5) = 0", "rule(6) = 0", "car(0, 3) = 0", "car(5, 3) = 0");
        holds("4 an empty text is taken, too", ROAD, "drive(9)", "see(0, 5)", "keep(1)", "text() = 0", "rule(0) = 0", "rule(1) = 0",
            "rule(4) = 0", "rule(5) = 0", "rule(6) = 0", "count(0) = 0", "count(1) = 0", "count(6) = 0");
        holds("4 SHEETS are not told", ROAD, "sheet(0, 1, 2)", "read(0, 0, 0, 1) = 0", "tell(road 1 1 1;) = 1", "count(3) = 2",
            "torn() = 3", "read(0, 1, 0, 1) = 1");
        holds("4 that which was told stays, and is what is asked of", "road 1 9 5;road 2 9 5;odds 0 5;odds 1 5;car one 5 1;car never 1 1;",
            "tell(@) = -10", "past(0) = 3/4", "tell(@) = -10", "row() = 5/4", "tell(@) = -10", "mean(0) = 7/1", "tell(@) = -10",
            "where(0, 1) = 1/4", "tell(@) = -10", "dare(0) = 8/1", "tell(@) = -10", "fits(0) = 4", "tell(@) = -10", "could() = 1",
            "tell(@) = -10", "tail(8) = 2", "tell(@) = -10", "lost() = 12", "tell(@) = -10", "build(1, 0, true) = 0");
        holds("5 The FAULT of the latest text(); 0", NO_TEXT, "fault() = 0", "tell(@) = -10", "fault() = 1", "feed(114)", "fault() = 1",
            "text() = -10", "fault() = 2", "keep(0)", "tell(road 0) = -15", "fault() = 3", "back(0) = 0", "fault() = 3", "text() = 0",
            "fault() = 0");
    }

    // ---- tokens and faults

    private static void tokens() {
        for (int c = 0; c < 128; c++) {
            boolean isToken = c >= 'a' && c <= 'z' || c >= '0' && c <= '9' || c == ';';
            String text = String.valueOf((char) c);
            if (c == ' ') {
                taken("blanks (32)", text, 0);
            } else {
                refused("TOKENS: NAMES (a .. z), NUMBERS, one ;, byte " + c, text, isToken ? 2 : 1, 0);
            }
        }
        taken("TOKENS, blanks between, or none", "  road1 2   3;road 4 5 6  ;car one1 2;  ", 3, "road(0, 2) = 3", "car(0, 1) = 1");
        taken("NUMBERS (1 or 2 figures)", "road 01 09 00;odds 00 10;", 2, "road(0, 0) = 1", "road(0, 1) = 9", "road(0, 2) = 0", "road(0, 3) = 10");
        refused("TOKENS as long as may be: a NAME", "carone 1 1;", 2, 0);
        refused("TOKENS as long as may be: a NAME", "roadroad 1 1 1;", 2, 0);
        refused("TOKENS as long as may be: a NUMBER", "road 11 1;", 3, 5);
        refused("a NAME is whole", "roa 1 1 1;", 2, 0);
        refused("a NAME is whole", "ca", 2, 0);
        refused("a K is whole", "car on 1 1;", 2, 4);
        refused("a K is whole", "car ones 1 1;", 2, 4);
        for (String[] line : LINES) {
            refusedByEachLetter(line[0], "", joined(line).substring(line[0].length()));
        }
        for (String kind : new String[] {"never", "one", "bold", "follow", "timid"}) {
            refusedByEachLetter(kind, "car ", " 1 1;");
        }
        refused("one ;", "road 1 1 1;;", 2, 11);
        refused("NAMES of small letters", "Road 1 1 1;", 1, 0);
        refused("NAMES of small letters", "roaD 1 1 1;", 2, 0);
    }

    private static void refusedByEachLetter(String name, String ahead, String behind) {
        for (int i = 0; i < name.length(); i++) {
            String other = name.substring(0, i) + "x" + name.substring(i + 1);
            refused("a NAME is whole, letter " + i, ahead + other + behind, 2, ahead.length());
        }
        refused("a NAME is whole, one letter more", ahead + name + "x" + behind, 2, ahead.length());
        refused("a NAME is whole, one letter less", ahead + name.substring(1) + behind, 2, ahead.length());
    }

    private static void faultOne() {
        refused("1 no TOKEN, for the first NUMBER", "road@", 1, 4);
        refused("1 no TOKEN, for the second NUMBER", "road 1@", 1, 6);
        refused("1 no TOKEN, for the third NUMBER", "road 1 1 @", 1, 9);
        refused("1 no TOKEN, for ;", "road 1 1 1@", 1, 10);
        refused("1 no TOKEN, behind a line", "road 1 1 1; -", 1, 12);
        refused("1 no TOKEN, for a K", "car @", 1, 4);
        refused("1 no TOKEN, for a STRETCH", "hill @", 1, 5);
        refused("1 no TOKEN, for ODDS", "odds 0 @", 1, 7);
        refused("1 no TOKEN, for LEAST", "slow 1 @", 1, 7);
        refused("1 no TOKEN, for NEED", "car one @", 1, 8);
        refused("1 no TOKEN, for PACE", "car one 1 @", 1, 10);
        refused("1 a NUMBER that is too long (its first byte)", "road 100 1 1;", 1, 5);
        refused("1 a NUMBER that is too long, of noughts", "road 1 001 1;", 1, 7);
        refused("1 a NUMBER that is too long, at the end", "road 1 1 111", 1, 9);
        refused("1 a NUMBER that is too long, of many figures", "hill 4294967296;", 1, 5);
        refused("1 a NUMBER that is too long fills THE TAPE", "1".repeat(160), 1, 0);
        refused("1 a NUMBER that is too long ahead of what can not stand there", "123", 1, 0);
        refused("1 a NUMBER that is too long for a K", "car 111 1 1;", 1, 4);
        refused("1 a NUMBER that is too long for ;", "road 1 1 1 123", 1, 11);
        refused("1 a NUMBER that is too long for ;, another FAULT behind it", "road 1 1 1 123 @", 1, 11);
        refused("1 a NUMBER that is too long for ;, all in order behind it", "road 1 1 1 123 road 1 1 1;", 1, 11);
        refused("1 a NUMBER that is too long for the first, another FAULT behind it", "hill 123 @", 1, 5);
        refused("1 a NUMBER that is too long for the second, another FAULT behind it", "odds 0 123 @", 1, 7);
        refused("1 a NUMBER that is too long for a K, another FAULT behind it", "car 123 @", 1, 4);
        refused("1 a NUMBER that is too long for a NAME, all in order behind it", "123 road 1 1 1;", 1, 0);
        refused("a TOKEN is read when the one before has been taken: 2", "roads @", 2, 0);
        refused("a TOKEN is read when the one before has been taken: 2", "car two @", 2, 4);
        refused("a TOKEN is read when the one before has been taken: 3", "road 0 @", 3, 5);
        refused("a TOKEN is read when the one before has been taken: 4", "slow 1 1;slow @", 4, 9);
        refused("a TOKEN is read when the one before has been taken: 4", "hill 0;hill 0 @", 4, 12);
        refused("a TOKEN is read when the one before has been taken: 5", "road 1 1 1;".repeat(8) + "road @", 5, 88);
        refused("the first met", "hill 0;@", 1, 7);
        refused("the first met", "road 1 1 1;road 1 1 10;car two", 3, 20);
    }

    private static void faultTwo() {
        for (String[] line : LINES) {
            for (int n = 1; n < line.length; n++) {
                String cut = joined(java.util.Arrays.copyOf(line, n));
                refused("2 or the end: the length", cut, 2, cut.length());
                refused("2 or the end: the length, behind blanks", cut + "   ", 2, cut.length() + 3);
            }
            for (int n = 0; n < line.length; n++) {
                int place = n == 0 ? 0 : joined(java.util.Arrays.copyOf(line, n)).length() + 1;
                for (String other : new String[] {"x", "1", ";", "road", "one", "slow"}) {
                    if (!stands(line, n, other)) {
                        String[] with = line.clone();
                        with[n] = other;
                        refused("2 a TOKEN that can not stand there", joined(with), 2, place);
                    }
                }
            }
        }
        refused("2 a NAME that begins no line", "never 1 1;", 2, 0);
        refused("2 a NAME that begins no line", "road 1 1 1;tractor", 2, 11);
        refused("2 a NAME that is no K", "car fast 1 1;", 2, 4);
        refused("2 a NAME that is no K", "car car 1 1;", 2, 4);
        refused("2 one NUMBER too many", "hill 0 0;", 2, 7);
        refused("2 one NUMBER too many", "car one 1 1 1;", 2, 12);
        refused("2 ahead of all", "road 1 1 1;hill 5;7", 2, 18);
    }

    private static boolean stands(String[] line, int n, String token) {
        boolean isNumber = line[n].matches("[0-9]+");
        boolean begins = n == 0 && (token.equals("road") || token.equals("slow"));
        boolean isKind = line[n].equals("one") && token.equals("one");
        return begins || isKind || line[n].equals(token) || isNumber && token.matches("[0-9]+");
    }

    private static void faultThree() {
        refused("3 MILES 0", "road 0 1 1;", 3, 5);
        refused("3 MILES 00", "road 00 1 1;", 3, 5);
        refused("3 MILES 10", "road 10 1 1;", 3, 5);
        refused("3 MILES 99", "road 99 1 1;", 3, 5);
        refused("3 SIGHT 10", "road 1 10 1;", 3, 7);
        refused("3 GAP 10", "road 1 1 10;", 3, 9);
        refused("3 hill of a STRETCH 8", "hill 8;", 3, 5);
        refused("3 layby of a STRETCH 8", "layby 8;", 3, 6);
        refused("3 lane of a STRETCH 8", "lane 8;", 3, 5);
        refused("3 odds of a STRETCH 8", "odds 8 1;", 3, 5);
        refused("3 hill of a STRETCH 32", "hill 32;", 3, 5);
        refused("3 ODDS 11", "odds 0 11;", 3, 7);
        refused("3 ODDS 99", "odds 0 99;", 3, 7);
        refused("3 PACE of THE TRACTOR 0", "slow 0 0;", 3, 5);
        refused("3 PACE of THE TRACTOR 10", "slow 10 0;", 3, 5);
        refused("3 LEAST 7", "slow 1 7;", 3, 7);
        refused("3 NEED 0", "car one 0 1;", 3, 8);
        refused("3 NEED 10", "car one 10 1;", 3, 8);
        refused("3 PACE 0", "car one 1 0;", 3, 10);
        refused("3 PACE 6", "car one 1 6;", 3, 10);
        refused("3 ahead of the end", "hill 8", 3, 5);
        refused("3 at the end of a full TAPE", " ".repeat(154) + "hill 8", 3, 159);
    }

    private static void faultFour() {
        refused("4 slow for the second time (its NAME)", "slow 1 1;slow 1 1;", 4, 9);
        refused("4 slow for the second time, whatever follows", "slow 1 1;  slow", 4, 11);
        refused("4 slow for the second time, lines between", "slow 5 0;road 1 1 1;slow 5 0;", 4, 20);
        refused("4 hill of a STRETCH told already (it)", "hill 0;hill 0;", 4, 12);
        refused("4 layby of a STRETCH told already (it)", "layby 7;layby 7;", 4, 14);
        refused("4 lane of a STRETCH told already (it)", "lane 3;lane 3;", 4, 12);
        refused("4 odds of a STRETCH told already (it)", "odds 2 1;odds 2 1;", 4, 14);
        refused("4 odds of a STRETCH told already, whatever ODDS", "odds 2 1;odds 2 11;", 4, 14);
        refused("4 a STRETCH told already, written another way", "hill 7;hill 07;", 4, 12);
        refused("4 a STRETCH told already, others between", "hill 1;hill 2;lane 1;hill 1;", 4, 26);
        refused("4 a STRETCH out of its bounds can not be told already", "hill 0;hill 8;", 3, 12);
        refused("4 a STRETCH told already ahead of one that there is not", "hill 3;hill 3;", 4, 12);
        taken("4 each of hill, odds, layby, lane by itself", "road 1 1 1;hill 0;odds 0 1;layby 0;lane 0;", 5, "road(0, 3) = 1",
            "road(0, 4) = 1", "road(0, 5) = 1", "road(0, 6) = 1");
        taken("4 of another STRETCH", "road 1 1 1;road 1 1 1;hill 0;hill 1;odds 0 1;odds 1 1;layby 0;layby 1;lane 0;lane 1;", 10);
        taken("4 slow once, in a text of its own", "slow 2 2;", 1);
        holds("4 told already in the same text alone", "road 1 1 1;slow 1 1;hill 0;odds 0 1;layby 0;lane 0;",
            "tell(road 1 1 1;slow 1 1;hill 0;odds 0 1;layby 0;lane 0;) = 6", "tell(slow 1 1;hill 0;odds 0 1;layby 0;lane 0;) = -50",
            "fault() = 6", "tell(road 1 1 1;slow 1 1;hill 0;odds 0 1;layby 0;lane 0;) = 6");
    }

    private static void faultsFiveAndSix() {
        String roads = "road1 1 1;".repeat(8);
        String cars = "car one1 1;".repeat(6);
        refused("5 the 9th road (its NAME)", roads + "road 1 1 1;", 5, 80);
        refused("5 the 9th road, whatever follows", roads + "road", 5, 80);
        refused("5 the 9th road, though it were out of bounds", roads + cars + "road 0;", 5, 146);
        refused("5 the 7th car (its NAME)", cars + "car one 1 1;", 5, 66);
        refused("5 the 7th car, whatever follows", cars + "car", 5, 66);
        refused("5 the 7th car, though it were no K", roads + cars + "car two", 5, 146);
        taken("5 the 8th road, the 6th car", roads + cars, 14);
        refused("6 a STRETCH that there is not (the length): hill", "road 1 1 1;hill 1;", 6, 18);
        refused("6 a STRETCH that there is not (the length): odds", "road 1 1 1;odds 1 1;", 6, 20);
        refused("6 a STRETCH that there is not (the length): layby", "road 1 1 1;layby 1;", 6, 19);
        refused("6 a STRETCH that there is not (the length): lane", "road 1 1 1;lane 1;", 6, 18);
        refused("6 the length, behind blanks", "hill 0;   ", 6, 10);
        refused("6 the length of a full TAPE", "lane 7;" + " ".repeat(153), 6, 160);
        refused("6 STRETCH 7 of 7", "road1 1 1;".repeat(7) + "hill 7;", 6, 77);
        refused("6 Behind all: a FAULT behind it is met first", "hill 1;road 1 1 1", 2, 17);
        taken("6 STRETCH 7 of 8", roads + "hill 7;odds 7 0;layby 7;lane 7;", 12, "road(7, 3) = 0", "road(7, 4) = 1", "road(7, 5) = 1",
            "road(7, 6) = 1");
        taken("6 Behind all: a STRETCH may be told ahead of its road", "hill 1;odds 0 3;lane 1;layby 0;road 1 1 1;road 1 1 1;", 6,
            "road(0, 3) = 3", "road(0, 4) = 0", "road(0, 5) = 1", "road(1, 4) = 1", "road(1, 6) = 1");
    }

    // ---- what there is, what is changed

    private static void whatThereIs() {
        holds("6 0 to 6. BAD", ROAD, "rule(-1) = BAD", "rule(0) = 2", "rule(1) = 2", "rule(2) = 6", "rule(3) = 3", "rule(4) = 0",
            "rule(5) = 0", "rule(6) = 0", "rule(7) = BAD", "rule(MIN) = BAD", "rule(MAX) = BAD");
        holds("6 CARS that are PAST (bits): all", "road 1 1 0;layby 0;slow 5 6;" + "car one 9 1;".repeat(6), "on() = 63", "rule(6) = 63",
            "count(4) = 6", "rule(5) = 5");
        holds("7 Of a STRETCH. BAD", ROAD, "road(-1, 0) = BAD", "road(2, 0) = BAD", "road(MIN, 0) = BAD", "road(MAX, 0) = BAD",
            "road(0, -1) = BAD", "road(0, 7) = BAD", "road(0, MIN) = BAD", "road(0, MAX) = BAD", "road(1, 0) = 3", "road(1, 1) = 9",
            "road(1, 2) = 8", "road(1, 3) = 5", "road(1, 4) = 1", "road(1, 5) = 0", "road(1, 6) = 1", "road(0, 5) = 1");
        holds("7 a STRETCH that is behind is one still", ROAD, "on()", "on()", "road(0, 0) = 2", "road(1, 0) = 3", "use(0, 9) = 5");
        holds("8 Of a CAR. BAD", ROAD, "car(-1, 0) = BAD", "car(2, 0) = BAD", "car(MIN, 0) = BAD", "car(MAX, 0) = BAD", "car(0, -1) = BAD",
            "car(0, 6) = BAD", "car(0, MIN) = BAD", "car(0, MAX) = BAD", "car(0, 0) = 1", "car(0, 1) = 3", "car(0, 2) = 2",
            "car(0, 3) = 0", "car(0, 4) = 0", "car(0, 5) = 0", "car(1, 5) = 1");
        holds("8 how many are behind THE TRACTOR ahead of it (0: it is PAST)", "road 1 9 1;road 1 9 6;car one 1 1;car never 1 1;car never 1 1;"
            + "car bold 2 1;car never 1 1;", "car(0, 5) = 0", "car(3, 5) = 3", "car(4, 5) = 4", "on() = 1", "car(0, 5) = 0", "car(1, 5) = 0",
            "car(2, 5) = 1", "car(3, 5) = 2", "car(4, 5) = 3", "on() = 8", "car(3, 5) = 0", "car(4, 5) = 2");
        holds("9 a gap (0 to 9). BAD", ROAD, "use(0, -1) = BAD", "use(0, 10) = BAD", "use(0, MIN) = BAD", "use(0, MAX) = BAD",
            "use(-1, 0) = BAD", "use(2, 0) = BAD", "use(0, 0) = 0", "use(0, 9) = 5");
        holds("9 OF USE is the gap, or SIGHT, if that is less", "road 1 5 0;road 1 9 0;road 1 0 9;", "use(0, 4) = 4", "use(0, 5) = 5",
            "use(0, 6) = 5", "use(1, 9) = 9", "use(1, 0) = 0", "use(2, 9) = 0", "use(2, 0) = 0");
        holds("9 SIGHT (uphill 1 less, 0 at least)", "road 1 0 0;road 1 1 0;road 1 2 0;road 1 9 0;hill 0;hill 1;hill 2;hill 3;",
            "use(0, 0) = 0", "use(0, 9) = 0", "use(1, 9) = 0", "use(2, 9) = 1", "use(2, 1) = 1", "use(2, 0) = 0", "use(3, 9) = 8",
            "use(3, 8) = 8", "use(3, 7) = 7");
        holds("9 by a THIRD LANE it is 9 whatever came", "road 1 0 0;road 1 0 0;lane 0;lane 1;hill 1;", "use(0, 0) = 9", "use(0, 9) = 9",
            "use(1, 0) = 9", "use(1, 10) = BAD", "build(0, 1, false) = 1", "use(0, 9) = 0");
    }

    private static void changes() {
        holds("10 GAP (0 to 9). BAD", ROAD, "gap(0, -1) = BAD", "gap(0, 10) = BAD", "gap(0, MIN) = BAD", "gap(0, MAX) = BAD",
            "gap(-1, 1) = BAD", "gap(2, 1) = BAD", "gap(1, 0) = 8", "gap(1, 9) = 0", "gap(1, 5) = 9", "road(1, 2) = 5", "road(0, 2) = 3");
        holds("11 SIGHT (0 to 9). BAD", ROAD, "sight(0, -1) = BAD", "sight(0, 10) = BAD", "sight(0, MIN) = BAD", "sight(0, MAX) = BAD",
            "sight(-1, 1) = BAD", "sight(2, 1) = BAD", "sight(0, 0) = 5", "sight(0, 9) = 0", "sight(0, 4) = 9", "road(0, 1) = 4",
            "road(1, 1) = 9");
        holds("12 ODDS (0 to 10). BAD", ROAD, "odd(0, -1) = BAD", "odd(0, 11) = BAD", "odd(0, MIN) = BAD", "odd(0, MAX) = BAD",
            "odd(-1, 1) = BAD", "odd(2, 1) = BAD", "odd(1, 0) = 5", "odd(1, 10) = 0", "odd(1, 9) = 10", "road(1, 3) = 9", "road(0, 3) = 10");
        holds("13 A LAY BY (0), a THIRD LANE (1), a hill (2). BAD", ROAD, "build(0, -1, true) = BAD", "build(0, 3, true) = BAD",
            "build(0, MIN, false) = BAD", "build(0, MAX, false) = BAD", "build(-1, 0, true) = BAD", "build(2, 0, true) = BAD",
            "build(2, 1, true) = BAD", "build(2, 2, true) = BAD");
        holds("13 whether there was: one, none", ROAD, "build(0, 0, true) = 1", "build(0, 0, false) = 1", "build(0, 0, false) = 0",
            "build(0, 0, true) = 0", "road(0, 5) = 1", "build(0, 1, true) = 0", "build(0, 1, true) = 1", "road(0, 6) = 1",
            "build(0, 1, false) = 1", "road(0, 6) = 0", "build(0, 2, true) = 0", "build(0, 2, true) = 1", "road(0, 4) = 1",
            "build(0, 2, false) = 1", "road(0, 4) = 0", "road(1, 4) = 1", "road(1, 6) = 1");
        String eachOne = "road 1 1 1;road 1 1 1;road 1 1 1;road 1 1 1;layby 0;lane 1;hill 2;";
        holds("13 a LAY BY more, the others stay", eachOne, "build(3, 0, true) = 0", "road(0, 5) = 1", "road(1, 5) = 0", "road(2, 5) = 0",
            "road(3, 5) = 1", "road(1, 6) = 1", "road(2, 4) = 1", "build(3, 0, false) = 1", "road(0, 5) = 1", "road(3, 5) = 0");
        holds("13 a THIRD LANE more, the others stay", eachOne, "build(3, 1, true) = 0", "road(0, 6) = 0", "road(1, 6) = 1", "road(2, 6) = 0",
            "road(3, 6) = 1", "road(0, 5) = 1", "road(2, 4) = 1", "build(3, 1, false) = 1", "road(1, 6) = 1", "road(3, 6) = 0");
        holds("13 a hill more, the others stay", eachOne, "build(3, 2, true) = 0", "road(0, 4) = 0", "road(1, 4) = 0", "road(2, 4) = 1",
            "road(3, 4) = 1", "road(0, 5) = 1", "road(1, 6) = 1", "build(3, 2, false) = 1", "road(2, 4) = 1", "road(3, 4) = 0");
        holds("13 one behind another, nothing asked between", "road 1 1 1;road 1 1 1;", "build(0, 0, true)", "build(0, 1, true)",
            "build(0, 2, true)", "build(1, 0, true)", "build(1, 1, true)", "build(1, 2, true)", "road(0, 4) = 1", "road(0, 5) = 1",
            "road(0, 6) = 1", "road(1, 4) = 1", "road(1, 5) = 1", "road(1, 6) = 1");
        holds("14 v (0 to 6). BAD", ROAD, "polite(-1) = BAD", "polite(7) = BAD", "polite(MIN) = BAD", "polite(MAX) = BAD",
            "polite(0) = 3", "polite(6) = 0", "polite(1) = 6", "rule(3) = 1");
        holds("15 KINDS (0 to 4), NEED (1 to 9). BAD", ROAD, "teach(0, -1, 1) = BAD", "teach(0, 5, 1) = BAD", "teach(0, MIN, 1) = BAD",
            "teach(0, MAX, 1) = BAD", "teach(0, 0, 0) = BAD", "teach(0, 0, 10) = BAD", "teach(0, 0, MIN) = BAD", "teach(0, 0, MAX) = BAD",
            "teach(-1, 0, 1) = BAD", "teach(2, 0, 1) = BAD");
        holds("15 of which KIND it was", ROAD, "teach(0, 0, 1) = 1", "teach(0, 4, 9) = 0", "car(0, 0) = 4", "car(0, 1) = 9",
            "teach(0, 2, 9) = 4", "car(0, 2) = 2", "car(1, 0) = 0", "car(1, 1) = 1");
        holds("10 to 15 of a STRETCH that is behind, a CAR that is PAST", "road 1 9 9;car one 1 1;", "on() = 1", "gap(0, 0) = 9",
            "sight(0, 0) = 9", "odd(0, 0) = 10", "build(0, 0, true) = 0", "teach(0, 0, 9) = 1", "rule(6) = 1", "car(0, 3) = 1");
    }

    // ---- how a stretch is driven

    private static void kinds() {
        int[] byNeed = {1, 2, 3, 4, 5, 6, 7, 8, 9};
        int[] byTwice = {2, 4, 6, 8, 10, 10, 10, 10, 10};
        int[] never = {10, 10, 10, 10, 10, 10, 10, 10, 10};
        leastGaps("never: it passes nobody", "never", 0, never);
        leastGaps("one: OF USE is NEED or more", "one", 0, byNeed);
        leastGaps("one: only when nobody is ahead of it", "one", 1, never);
        leastGaps("follow: as one", "follow", 0, byNeed);
        leastGaps("follow: only when nobody is ahead of it", "follow", 1, never);
        leastGaps("timid: OF USE is twice NEED or more", "timid", 0, byTwice);
        leastGaps("timid: only when nobody is ahead of it", "timid", 1, never);
        leastGaps("bold: NEED times so many or more: 1", "bold", 0, byNeed);
        leastGaps("bold: NEED times so many or more: 2", "bold", 1, byTwice);
        leastGaps("bold: NEED times so many or more: 3", "bold", 2, new int[] {3, 6, 9, 10, 10, 10, 10, 10, 10});
        leastGaps("bold: NEED times so many or more: 4", "bold", 3, new int[] {4, 8, 10, 10, 10, 10, 10, 10, 10});
        leastGaps("bold: NEED times so many or more: 5", "bold", 4, new int[] {5, 10, 10, 10, 10, 10, 10, 10, 10});
        leastGaps("bold: NEED times so many or more: 6", "bold", 5, new int[] {6, 10, 10, 10, 10, 10, 10, 10, 10});
    }

    /** The least gap, by NEED, with which a car passes that has so many ahead of it; 10: with none. */
    private static void leastGaps(String sentence, String kind, int ahead, int[] least) {
        for (int need = 1; need <= 9; need++) {
            for (int gap = 0; gap <= 9; gap++) {
                User user = new User();
                user.written("tell(road 1 9 0;" + "car never 1 1;".repeat(ahead) + "car " + kind + " " + need + " 1;)");
                due(sentence, kind + " of NEED " + need + " drive(" + gap + ")", user.call("drive", gap), gap >= least[need - 1] ? 1 << ahead : 0);
            }
        }
    }

    private static void orderOfTheRow() {
        holds("CARS by order, the first one first", "road 1 9 0;car one 2 1;car one 2 1;car one 3 1;car one 2 1;", "drive(2) = 3",
            "rule(6) = 3");
        holds("those ahead of it that are behind THE TRACTOR yet", "road 1 9 0;road 1 9 0;car one 2 1;car never 1 1;car bold 2 1;",
            "drive(3) = 1", "drive(4) = 4");
        holds("those ahead of it: who has just passed is not", "road 1 9 0;car timid 1 1;car bold 2 1;", "drive(2) = 3");
        holds("follow: the CAR right ahead of it came PAST in this STRETCH", "road 1 9 0;road 1 9 0;car one 1 1;car follow 9 1;",
            "drive(0) = 0", "drive(1) = 3");
        holds("follow: behind follow, five of them", "road 1 9 0;car one 1 1;" + "car follow 9 1;".repeat(5), "drive(1) = 63");
        holds("follow: behind timid, bold", "road 1 9 0;car timid 1 1;car follow 9 1;car bold 2 1;car follow 9 1;", "drive(2) = 15");
        holds("follow: not behind one that came PAST in another STRETCH", "road 1 9 0;road 1 9 0;car one 1 1;car never 9 1;",
            "drive(1) = 1", "teach(1, 3, 9) = 0", "drive(1) = 0", "rule(6) = 1");
        holds("follow: the CAR right ahead of it in the ROW (as told)", "road 1 9 0;road 1 9 0;car one 5 1;car bold 1 1;car follow 9 1;",
            "drive(2) = 2", "drive(5) = 1");
        holds("follow: only when nobody is ahead of it", "road 1 9 0;car never 1 1;car bold 1 1;car follow 1 1;", "drive(9) = 2");
        holds("a STRETCH is driven: OF USE, not the gap", "road 1 3 0;road 1 4 0;road 1 4 0;car one 4 1;hill 1;", "drive(9) = 0",
            "drive(9) = 0", "drive(9) = 1");
        holds("by a THIRD LANE it is 9 whatever came", "road 1 0 0;road 1 0 0;hill 1;lane 1;car one 9 1;", "drive(9) = 0", "drive(0) = 1");
    }

    private static void layBys() {
        for (int least = 0; least <= 6; least++) {
            for (int cars = 0; cars <= 6; cars++) {
                boolean pullsIn = least > 0 && cars >= least;
                holds("LEAST or more CARS are behind it (0: never): " + least + ", " + cars,
                    "road 1 0 0;layby 0;slow 5 " + least + ";" + "car never 1 1;".repeat(cars),
                    "drive(0) = " + (pullsIn ? (1 << cars) - 1 : 0));
            }
        }
        holds("where there is a LAY BY", "road 1 0 0;road 1 0 0;layby 1;slow 5 1;car never 1 1;", "drive(0) = 0", "drive(0) = 1");
        holds("behind it: who is PAST is not", "road 1 9 0;road 1 9 0;layby 1;slow 5 2;car one 1 1;car never 1 1;", "drive(1) = 1", "drive(0) = 0");
        holds("First a LAY BY, Else CARS by order", "road 1 9 0;road 1 9 0;layby 0;layby 1;slow 5 3;car one 1 1;car one 2 1;", "drive(1) = 1",
            "drive(2) = 2");
        holds("First a LAY BY: counted ahead of passing", "road 1 9 0;layby 0;slow 5 2;car one 1 1;car never 1 1;", "drive(1) = 3");
        holds("a LAY BY with nobody behind", "road 1 9 0;road 1 9 0;layby 1;slow 5 1;car one 1 1;", "drive(1) = 1", "drive(0) = 0");
    }

    private static void times() {
        holds("TIME of each behind yet, and of THE TRACTOR: MILES times PACE of THE TRACTOR", "road 9 9 0;slow 9 0;car one 9 5;car never 1 1;",
            "drive(8) = 0", "car(0, 3) = 81", "car(1, 3) = 81", "rule(5) = 81");
        holds("of each that is PAST (in this STRETCH, too) by MILES times its own PACE", "road 9 9 0;road 1 9 0;slow 9 0;car one 9 5;car never 1 1;",
            "drive(9) = 1", "car(0, 3) = 45", "car(1, 3) = 81", "rule(5) = 81", "drive(0) = 0", "car(0, 3) = 50", "car(1, 3) = 90",
            "rule(5) = 90");
        holds("PAST by a LAY BY, too", "road 2 0 0;layby 0;slow 9 1;car never 1 3;", "drive(0) = 1", "car(0, 3) = 6", "rule(5) = 18");
        holds("its own PACE, though that is slower", "road 2 9 0;slow 1 0;car one 1 5;", "drive(1) = 1", "car(0, 3) = 10", "rule(5) = 2");
    }

    private static void driving() {
        holds("16 a gap (0 to 9). BAD", ROAD, "drive(-1) = BAD", "drive(10) = BAD", "drive(MIN) = BAD", "drive(MAX) = BAD", "drive(0) = 0",
            "drive(9) = 1", "rule(4) = 2");
        holds("16 STATE: all have come", "road 1 9 9;car one 1 1;", "drive(0) = 0", "drive(9) = STATE", "drive(0) = STATE", "rule(4) = 1",
            "rule(5) = 5");
        holds("16 a road without CARS", "road 3 9 9;", "drive(9) = 0", "rule(5) = 15", "rule(4) = 1", "drive(9) = STATE");
        holds("17 with its own GAP", "road 1 9 0;road 1 9 9;road 1 9 4;car one 5 1;car one 9 1;car never 1 1;", "on() = 0", "gap(1, 8) = 9",
            "on() = 1", "on() = 0", "on() = STATE", "rule(4) = 3");
        String road = "road 1 9 0;road 1 9 5;road 1 9 9;car one 5 1;car one 9 1;car never 1 1;";
        holds("18 TIME at the end, in which STRETCH it came PAST", road, "ahead(0, 0) = 7", "ahead(0, 1) = 1", "ahead(1, 0) = 11",
            "ahead(1, 1) = 2", "ahead(2, 0) = 15", "ahead(2, 1) = NONE");
        holds("18 BAD", road, "ahead(-1, 0) = BAD", "ahead(3, 0) = BAD", "ahead(MIN, 1) = BAD", "ahead(MAX, 1) = BAD", "ahead(0, -1) = BAD",
            "ahead(0, 2) = BAD", "ahead(0, MIN) = BAD", "ahead(0, MAX) = BAD");
        holds("18 the first STRETCH, the last one", "road1 9 9;" + "road1 9 0;".repeat(6) + "road1 9 9;car one 9 1;car never 1 1;car one 9 1;",
            "ahead(0, 1) = 0", "teach(1, 2, 9) = 0", "ahead(1, 1) = 0", "gap(0, 8)", "ahead(0, 1) = 7", "ahead(0, 0) = 36", "ahead(2, 1) = 7");
        holds("18 NONE: not in these eight", FULLEST, "ahead(5, 1) = NONE", "ahead(5, 0) = 648", "on() = 0", "ahead(5, 1) = NONE");
        holds("18 NONE: not in these", road, "on() = 0", "on() = 1", "ahead(0, 1) = NONE", "ahead(0, 0) = 7", "ahead(1, 1) = 2", "on() = 2",
            "ahead(1, 1) = NONE", "ahead(1, 0) = 11", "ahead(2, 0) = 15");
        holds("19 n STRETCHES more (0 to 8; no more than are left). BAD", road, "tail(-1) = BAD", "tail(MIN) = BAD", "tail(0) = 7",
            "tail(1) = 7", "tail(2) = 6", "tail(3) = 4", "tail(4) = 4", "tail(8) = 4", "tail(9) = BAD", "tail(MAX) = BAD");
        holds("19 from the STRETCH at which the ROW is", road, "on() = 0", "tail(0) = 7", "tail(1) = 6", "tail(2) = 4", "tail(8) = 4",
            "on() = 1", "on() = 2", "tail(0) = 4", "tail(1) = 4", "tail(8) = 4");
        holds("19 eight STRETCHES", "road1 9 0;".repeat(7) + "road1 9 9;car one 9 1;", "tail(7) = 1", "tail(8) = 0");
        holds("20 All minutes that CARS lose", road, "lost() = 24", "on() = 0", "lost() = 12", "on() = 1", "lost() = 4", "on() = 2", "lost() = 0");
        holds("20 below 0, where that is slower", "road 2 1 0;slow 1 0;car never 1 5;", "lost() = -8", "on() = 0", "lost() = 0");
        holds("20 nothing to lose", "road 9 9 0;slow 5 0;car never 1 5;", "lost() = 0");
    }

    // ---- by odds

    private static void byOdds() {
        holds("21 0, 1. BAD", ROAD, "past(0, -1) = BAD", "past(0, 2) = BAD", "past(-1, 0) = BAD", "past(2, 0) = BAD", "past(MIN, MAX) = BAD",
            "past(MAX, MIN) = BAD");
        holds("21 never, surely", "road 1 9 5;odds 0 0;car one 5 1;car never 1 1;", "past(0) = 0/1", "odd(0, 10)", "past(0) = 1/1",
            "past(1) = 0/1", "gap(0, 4)", "past(0) = 0/1");
        holds("21 by itself, else none (0)", "road 1 9 5;road 1 9 5;odds 0 5;odds 1 5;car one 5 1;", "past(0) = 3/4", "odd(1, 1)",
            "past(0) = 11/20");
        holds("21 else none (0): nothing to pass in", "road 1 9 5;odds 0 5;car one 1 1;", "past(0) = 1/2", "mean(0) = 3/1", "row() = 1/2",
            "where(0, 0) = 1/2", "dare(0) = 2/1", "gap(0, 0)", "past(0) = 0/1", "mean(0) = 5/1", "row() = 1/1", "where(0, 0) = 0/1");
        holds("21 from the ROW as it is, whatever was asked before", "road 1 9 5;road 1 9 9;odds 0 5;odds 1 5;car one 5 1;car one 9 1;",
            "past(1) = 1/2", "row() = 3/4", "drive(5) = 1", "past(1) = 1/2", "past(0) = 1/1", "row() = 1/2", "where(1, 1) = 1/2");
        holds("21 a THIRD LANE, a LAY BY whatever comes", "road 1 0 0;odds 0 0;lane 0;car one 9 1;car never 1 1;", "past(0) = 1/1",
            "past(1) = 0/1", "build(0, 0, true)", "polite(2)", "past(1) = 1/1", "polite(3)", "past(1) = 0/1");
        holds("21 nothing is left", "road 1 9 5;odds 0 1;car one 5 1;car never 1 1;", "drive(5) = 1", "past(0) = 1/1", "past(1) = 0/1",
            "mean(0) = 1/1", "mean(1) = 5/1", "row() = 1/1");
        holds("22 0, 1. BAD", ROAD, "mean(0, -1) = BAD", "mean(0, 2) = BAD", "mean(-1, 0) = BAD", "mean(2, 0) = BAD", "mean(MIN, MAX) = BAD",
            "mean(MAX, MIN) = BAD");
        holds("22 TIME that there is counts", "road 1 9 5;road 2 9 5;odds 1 5;car one 5 1;", "drive(4) = 0", "mean(0) = 11/1", "odd(1, 3)",
            "mean(0) = 63/5");
        holds("23 0, 1. BAD", ROAD, "row(-1) = BAD", "row(2) = BAD", "row(MIN) = BAD", "row(MAX) = BAD");
        holds("23 nobody, all six", "road 1 9 5;odds 0 5;" + "car never 1 1;".repeat(6), "row() = 6/1", "polite(6)", "build(0, 0, true)",
            "row() = 0/1");
        holds("23 some of them", "road 1 9 5;odds 0 5;car one 5 1;car never 1 1;", "row() = 3/2", "drive(5) = 1", "row() = 1/1");
        holds("24 0, 1. BAD", ROAD, "where(0, 0, -1) = BAD", "where(0, 0, 2) = BAD", "where(-1, 0, 0) = BAD", "where(2, 0, 0) = BAD",
            "where(0, -1, 0) = BAD", "where(0, 2, 0) = BAD", "where(MIN, MIN, MIN) = BAD", "where(0, MAX, 1) = BAD", "where(0, MIN, 1) = BAD");
        holds("24 BAD (also a STRETCH that is behind)", "road 1 9 5;road 1 9 5;odds 0 5;odds 1 5;car one 5 1;", "where(0, 0) = 1/2",
            "where(0, 1) = 1/4", "drive(0) = 0", "where(0, 0, 0) = BAD", "where(0, 0, 1) = BAD", "where(0, 1) = 1/2", "drive(0) = 0",
            "where(0, 1, 0) = BAD", "where(0, 2, 0) = BAD");
        holds("24 that it is there that it comes PAST: not when it is PAST", "road 1 9 5;road 1 9 5;car one 5 1;", "on() = 1",
            "where(0, 1) = 0/1");
        // past 9, own 1, 0.1 in each of 8 stretches of 9 miles: 72 saved for each stretch PAST, of which there are 2.87420489 in the mean
        String far = "road9 9 9;".repeat(8) + "slow9 0;car one9 1;";
        holds("21 to 24 exactly, eight STRETCHES", far, "odd(0, 1)", "odd(1, 1)", "odd(2, 1)", "odd(3, 1)", "odd(4, 1)", "odd(5, 1)",
            "odd(6, 1)", "odd(7, 1)", "past(0) = 56953279/100000000", "mean(0) = 5513215599/12500000", "row() = 43046721/100000000",
            "where(0, 7) = 4782969/100000000", "where(0, 0) = 1/10", "dare(0) = 2586784401/12500000");
        holds("21 to 24 exactly, all but surely", far, "odd(0, 9)", "odd(1, 9)", "odd(2, 9)", "odd(3, 9)", "odd(4, 9)", "odd(5, 9)",
            "odd(6, 9)", "odd(7, 9)", "past(0) = 99999999/100000000", "row() = 1/100000000", "where(0, 7) = 9/100000000");
    }

    // ---- what is to be done

    private static void costs() {
        holds("25 BAD", ROAD, "cost(-1) = BAD", "cost(2) = BAD", "cost(MIN) = BAD", "cost(MAX) = BAD");
        holds("25 10000 and by how much it would be less", "road 1 9 9;car never 1 1;car one 1 1;car one 2 3;", "cost(0) = 10006",
            "cost(1) = 10000", "cost(2) = 10000", "on() = 0", "cost(0) = 10000");
        holds("25 a NEED of 1", "road 1 9 0;car never 1 1;car follow 9 1;", "cost(0) = 10000", "gap(0, 1)", "cost(0) = 10004");
        holds("25 10000 less that, if it would be more", "road 1 9 2;road 1 9 2;layby 1;slow 5 2;car never 1 1;car bold 2 1;",
            "cost(1) = 9996");
        holds("25 all other CARS: there are none", "road 9 9 9;slow 9 0;car never 1 1;", "cost(0) = 10000");
        holds("25 a CAR that is PAST", "road 1 9 1;road 1 9 9;car one 1 1;car never 1 1;", "on() = 1", "cost(0) = 10000", "cost(1) = 10000");
        holds("25 bold with a NEED of 1 already", "road 1 9 2;car never 1 1;car bold 1 1;car one 1 1;", "cost(1) = 10000", "cost(0) = 10004");
    }

    private static void lanesAndLayBys() {
        holds("26 BAD", ROAD, "third(-1) = BAD", "third(2) = BAD", "third(MIN) = BAD", "third(MAX) = BAD");
        holds("27 BAD", ROAD, "layby(-1) = BAD", "layby(2) = BAD", "layby(MIN) = BAD", "layby(MAX) = BAD");
        String two = "road 2 0 0;road 1 0 0;car one 9 1;";
        holds("26 of those left", two, "third(0) = 0", "third(1) = 12", "on() = 0", "third(0) = 1", "third(1) = 4", "on() = 0",
            "third(0) = NONE", "third(1) = NONE");
        holds("27 of those left", two, "layby(0) = 0", "layby(1) = 12", "on() = 0", "layby(0) = 1", "layby(1) = 4", "on() = 0",
            "layby(0) = NONE", "layby(1) = NONE");
        holds("26 without one", "road 2 0 0;road 1 0 0;lane 0;car one 9 1;", "third(0) = NONE", "third(1) = NONE", "teach(0, 4, 5)",
            "third(0) = NONE");
        holds("26 without one: the others", "road 1 0 0;road 1 0 0;lane 0;car never 1 1;", "third(0) = NONE", "build(0, 1, false)",
            "teach(0, 1, 1)", "third(0) = 0", "build(0, 1, true)", "third(0) = NONE");
        holds("26 without a THIRD LANE: a LAY BY is none", "road 1 0 0;layby 0;car one 9 1;", "third(0) = 0", "third(1) = 4");
        holds("27 without a LAY BY: a THIRD LANE is none", "road 1 0 0;lane 0;car never 1 1;", "layby(0) = 0", "layby(1) = 4");
        holds("26 one more: those that there are stay", "road 1 0 0;road 1 0 0;lane 1;layby 0;car one 9 1;car never 1 1;car bold 4 1;",
            "ahead(2, 1) = 1", "third(0) = 0", "third(1) = 8", "layby(0) = 1", "layby(1) = 16");
        holds("27 without one", "road 1 0 0;layby 0;car never 1 1;", "layby(0) = NONE", "layby(1) = NONE");
        holds("27 without one, LEAST being 1 then in those that have one, too", "road 1 0 0;road 1 0 0;layby 0;car never 1 1;", "layby(0) = 1",
            "layby(1) = 8", "rule(3) = 0");
        holds("27 LEAST being 1 then", "road 1 0 0;slow 2 6;car never 1 1;", "layby(0) = 0", "layby(1) = 1", "rule(3) = 6");
        String tied = "road 1 9 0;road 1 9 2;slow 3 0;car one 9 1;car bold 1 5;";
        holds("26 of several the first", tied, "third(0) = 0", "third(1) = 2");
        holds("27 of several the first", tied, "layby(0) = 0", "layby(1) = 2");
        String later = "road 1 9 0;road 1 9 2;slow 3 0;car one 9 2;car bold 1 5;";
        holds("26 saves most: a later one", later, "third(0) = 1", "third(1) = 1");
        holds("27 saves most: a later one", later, "layby(0) = 1", "layby(1) = 1");
        holds("26 saves most: a later one, a LAY BY that is not used ahead of it", later + "layby 0;", "third(0) = 1", "third(1) = 1");
        holds("26 NONE: by none are there any saved", "road 1 0 0;slow 5 0;car one 9 5;", "third(0) = NONE", "third(1) = NONE",
            "layby(0) = NONE", "layby(1) = NONE");
        holds("26 NONE: it would be slower", "road 1 0 0;slow 1 0;car one 9 5;", "third(0) = NONE", "third(1) = NONE", "layby(0) = NONE",
            "layby(1) = NONE");
        holds("26 NONE: no CARS", "road 1 0 0;", "third(0) = NONE", "layby(0) = NONE");
        holds("26 NONE: all are PAST", "road 1 9 9;road 1 9 9;car one 1 1;", "on() = 1", "third(0) = NONE", "layby(0) = NONE");
    }

    private static void fairness() {
        holds("28 BAD", ROAD, "fair(-1) = BAD", "fair(2) = BAD", "fair(MIN) = BAD", "fair(MAX) = BAD");
        holds("28 of several the least: 0", "road 1 0 0;slow 5 3;car never 1 1;", "fair(0) = 0", "fair(1) = 5", "rule(3) = 3");
        holds("28 of several the least: 1", "road 1 0 0;layby 0;slow 5 6;" + "car never 1 1;".repeat(6), "fair(0) = 1", "fair(1) = 6");
        holds("28 never to pull in is best", "road 1 0 0;layby 0;slow 1 1;car never 1 5;", "fair(0) = 0", "fair(1) = 1");
        holds("28 all TIMES at the end", "road 2 0 0;road 1 0 0;layby 1;car never 1 1;car never 1 2;", "fair(0) = 1", "fair(1) = 23",
            "on() = 0", "fair(0) = 1", "fair(1) = 23", "on() = 0", "fair(0) = 0", "fair(1) = 30");
    }

    private static void needs() {
        holds("29 BAD", ROAD, "need(-1) = BAD", "need(2) = BAD", "need(MIN) = BAD", "need(MAX) = BAD");
        holds("29 The least NEED (1 to 9)", "road 1 9 0;car one 5 1;car never 1 1;", "need(0) = 1", "gap(0, 1)", "need(0) = 2", "gap(0, 8)",
            "need(0) = 9", "car(0, 1) = 5", "need(1) = 1");
        holds("29 NONE: it is by all", "road 1 9 9;car one 5 1;", "need(0) = NONE", "teach(0, 4, 5)", "need(0) = 5", "teach(0, 2, 9)",
            "need(0) = NONE", "teach(0, 3, 1)", "need(0) = NONE");
        holds("29 NONE: by a LAY BY", "road 1 0 0;layby 0;slow 5 1;car never 1 1;", "need(0) = NONE", "polite(2)", "need(0) = 1");
        holds("29 bold, one ahead", "road 1 9 9;car never 1 1;car bold 1 1;", "need(1) = 5");
        holds("29 STATE: it is PAST", "road 1 9 9;road 1 9 9;car one 1 1;car one 1 1;", "teach(1, 0, 1)", "on() = 1", "need(0) = STATE",
            "need(1) = 1");
        holds("29 nothing is left", "road 1 9 0;car one 1 1;", "on() = 0", "need(0) = 1");
    }

    private static void daring() {
        holds("30 RISK v (0 to 99). BAD", "road 9 9 9;road 9 9 9;slow 9 0;car one 1 1;", "dare(-1, 0) = BAD", "dare(100, 0) = BAD",
            "dare(MIN, 1) = BAD", "dare(MAX, 2) = BAD", "dare(0, -1) = BAD", "dare(0, 3) = BAD", "dare(0, MIN) = BAD", "dare(0, MAX) = BAD",
            "dare(0) = 144/1", "dare(99) = 45/1", "dare(99, 2) = 0");
        holds("30 STATE: nobody is behind", "road 1 9 9;road 1 9 9;car one 1 1;", "on() = 1", "dare(0, 0) = STATE", "dare(0, 1) = STATE",
            "dare(0, 2) = STATE");
        holds("30 only where that is better", "road 1 9 9;car one 1 1;", "dare(3) = 1/1", "dare(3, 2) = 0", "dare(4) = 0/1",
            "dare(4, 2) = NONE", "dare(5) = 0/1", "dare(5, 2) = NONE");
        holds("30 only where that is better: in vain, for nothing", "road 1 9 4;car one 5 1;", "dare(0) = 0/1", "dare(0, 2) = NONE");
        holds("30 NONE: in none, no STRETCH is left", "road 1 9 0;car one 1 1;", "on() = 0", "dare(0) = 0/1", "dare(0, 2) = NONE");
        holds("30 NONE: its own PACE is slower", "road 1 9 9;slow 1 0;car one 1 5;", "dare(0) = 0/1", "dare(0, 2) = NONE");
        holds("30 each in which it dares costs RISK, BY ODDS", "road 1 9 9;road 1 9 9;odds 0 5;car one 1 1;", "dare(1) = 9/2", "dare(1, 2) = 0",
            "odd(0, 1)", "dare(1) = 3/1", "dare(1, 2) = 1", "odd(1, 5)", "odd(0, 5)", "dare(1) = 7/2", "odd(0, 0)", "dare(1) = 1/1",
            "dare(1, 2) = 1");
        holds("30 in the STRETCH in which it comes PAST and all behind", "road 2 9 9;road 3 9 0;car one 1 1;", "dare(0) = 20/1",
            "on() = 1", "dare(0, 0) = STATE");
        holds("30 of those left", "road 2 9 9;road 3 9 9;car one 1 1;", "drive(0) = 0", "dare(0) = 12/1", "dare(0, 2) = 1");
        holds("30 by its KIND what is OF USE is enough: one, follow, bold, timid, never", "road 1 9 4;car one 4 1;", "dare(0) = 4/1",
            "teach(0, 1, 5)", "dare(0) = 0/1", "teach(0, 3, 4)", "dare(0) = 4/1", "teach(0, 3, 5)", "dare(0) = 0/1", "teach(0, 2, 4)",
            "dare(0) = 4/1", "teach(0, 2, 5)", "dare(0) = 0/1", "teach(0, 4, 2)", "dare(0) = 4/1", "teach(0, 4, 3)", "dare(0) = 0/1",
            "teach(0, 0, 1)", "dare(0) = 0/1");
        holds("30 OF USE, not the gap", "road 1 3 9;car one 3 1;", "dare(0) = 4/1", "build(0, 2, true)", "dare(0) = 0/1",
            "build(0, 1, true)", "odd(0, 0)", "dare(0) = 4/1");
        holds("30 The first CAR that is behind yet, alone (LAY BYS aside)", "road 1 9 1;road 1 9 4;layby 1;slow 5 1;car one 1 1;car never 1 1;"
            + "car bold 2 2;", "on() = 1", "dare(0) = 0/1", "teach(1, 1, 4)", "dare(0) = 4/1", "dare(3) = 1/1", "dare(4, 2) = NONE");
        holds("30 The first CAR that is behind yet, one before it being PAST or not", "road 1 9 2;road 1 9 4;car never 1 1;car bold 1 1;"
            + "car bold 4 1;", "on() = 2", "dare(0) = 0/1", "teach(0, 2, 4)", "dare(0) = 4/1");
    }

    // ---- arrivals, by a seed

    private static void arrivals() {
        holds("31 a TIME (0 to 999). BAD", ROAD, "see(0, -1) = BAD", "see(0, 1000) = BAD", "see(0, MIN) = BAD", "see(0, MAX) = BAD",
            "see(-1, 0) = BAD", "see(2, 0) = BAD", "see(0, 0) = 1", "see(1, 999) = 2", "count(0) = 2");
        holds("31 FULL: SEEN (6)", "road 1 9 9;car one 1 1;", "see(0, 1) = 1", "see(0, 1) = 2", "see(0, 1) = 3", "see(0, 1) = 4",
            "see(0, 1) = 5", "see(0, 1) = 6", "see(0, 2) = FULL", "see(1, 2) = BAD", "fits(0) = 1", "count(0) = 6", "forget(5) = 6",
            "see(0, 2) = 6", "fits(0) = 0");
        holds("32 BAD", ROAD, "forget(1) = BAD", "forget(-1) = BAD", "forget(0) = 0", "see(0, 1)", "forget(2) = BAD", "forget(MIN) = BAD",
            "forget(MAX) = BAD", "forget(1) = 1", "forget(0) = 1", "count(0) = 0");
        holds("32 the first n alone", "road 1 9 9;car one 1 1;", "see(0, 1)", "see(0, 5)", "fits(0) = 0", "forget(2) = 2", "fits(0) = 0",
            "forget(1) = 2", "fits(0) = 1", "fits(1) = 1", "see(0, 1) = 2", "fits(0) = 1", "forget(0) = 2", "fits(0) = 2");
        holds("33 BAD", ROAD, "fits(-1) = BAD", "fits(4) = BAD", "fits(MIN) = BAD", "fits(MAX) = BAD");
        String two = "road 1 9 5;road 1 9 5;car one 5 1;";
        holds("33 nothing is SEEN: all sets", two, "fits(0) = 4", "fits(1) = 0", "fits(2) = 0", "fits(3) = 0", "could() = 1");
        holds("33 the least by STRETCHES as bits, in all, in none", two, "see(0, 2)", "fits(0) = 2", "fits(1) = 1", "fits(2) = 1",
            "fits(3) = 0", "could() = 1", "forget(0)", "see(0, 6)", "fits(0) = 1", "fits(1) = 2", "fits(2) = 2", "fits(3) = 1", "could() = 1");
        holds("33 the empty set is one", two, "see(0, 10)", "fits(0) = 1", "fits(1) = 0", "fits(2) = 0", "fits(3) = 3", "could() = 0");
        holds("33 NONE (1, 2, 3): there is none", two, "see(0, 3)", "fits(0) = 0", "fits(1) = NONE", "fits(2) = NONE", "fits(3) = NONE",
            "could() = 0");
        holds("33 all is as SEEN", two, "see(0, 2)", "see(0, 6)", "fits(0) = 0", "forget(1)", "see(0, 2)", "fits(0) = 2");
        holds("33 of those left", two, "see(0, 6)", "drive(0) = 0", "fits(0) = 1", "fits(1) = 2", "fits(2) = 2", "fits(3) = 0", "forget(0)",
            "see(0, 10)", "fits(0) = 1", "fits(1) = 0", "fits(2) = 0", "fits(3) = 2");
        holds("33 nothing is left", two, "drive(5) = 1", "drive(0) = 0", "fits(0) = 1", "fits(1) = 0", "fits(2) = 0", "fits(3) = 0",
            "could() = 1", "see(0, 2)", "fits(0) = 1", "see(0, 3)", "fits(0) = 0", "fits(3) = NONE", "could() = 0");
        holds("33 each of them there or not (by sets): eight of them, of GAPS 0", FULLEST, "fits(0) = 256", "fits(1) = 0", "fits(2) = 0",
            "fits(3) = 0", "see(5, 648)", "fits(0) = 256", "see(0, 647)", "fits(0) = 0");
        holds("33 eight of them, the last one there", FULLEST, "gap(7, 9)", "see(0, 612)", "fits(0) = 128", "fits(1) = 128", "fits(2) = 128",
            "fits(3) = 0", "could() = 63", "forget(0)", "see(0, 648)", "fits(0) = 128", "fits(3) = 128", "could() = 0");
        holds("33 TIME that there is counts", FULLEST, "on() = 0", "see(5, 648)", "fits(0) = 128", "fits(3) = 0", "see(0, 567)", "fits(0) = 0");
        holds("33 a GAP that is not there is none (0)", "road 1 9 5;car one 1 1;", "see(0, 5)", "fits(0) = 1", "fits(1) = 0");
        holds("33 ODDS aside", "road 1 9 5;odds 0 0;car one 5 1;", "see(0, 1)", "fits(0) = 1", "fits(1) = 1");
        holds("34 CARS that can have been PAST, already too", "road 1 9 5;road 1 9 5;car one 5 1;car one 5 1;car never 1 1;", "teach(1, 0, 5)",
            "on() = 1", "teach(1, 1, 5)", "could() = 3", "see(1, 10)", "could() = 1", "forget(0)", "see(2, 9)", "could() = 0");
    }

    private static void bySeed() {
        holds("35 BAD", ROAD, "drift(0, -1) = BAD", "drift(0, 2) = BAD", "drift(0, MIN) = BAD", "drift(MIN, MAX) = BAD");
        seedGives(0, new int[] {0, 8, 8, 7, 8, 7, 5, 1});
        seedGives(1, new int[] {8, 8, 3, 5, 1, 7, 0, 9});
        seedGives(-1, new int[] {9, 9, 2, 8, 3, 6, 0, 3});
        seedGives(Integer.MAX_VALUE, new int[] {9, 9, 2, 8, 3, 6, 0, 3});
        seedGives(Integer.MIN_VALUE, new int[] {0, 8, 8, 7, 8, 7, 5, 1});
        holds("35 all STRETCHES that are left", "road 1 9 0;road 2 9 0;road 1 9 0;slow 5 0;car one 8 1;car never 1 1;", "drift(1, 0) = 24",
            "drift(1, 1) = 1", "drift(0, 0) = 28", "drive(0) = 0", "drift(0, 0) = 36", "drift(1, 0) = 28", "drive(0) = 0",
            "drift(0, 0) = 40", "drift(0, 1) = 0", "drive(8) = 1", "drift(1, 0) = 36", "drift(1, 1) = 1");
        holds("35 a THIRD LANE, a LAY BY", "road 1 0 0;lane 0;slow 5 2;car one 9 1;car never 1 1;", "drift(0, 1) = 1", "build(0, 0, true)",
            "drift(0, 1) = 3", "drift(0, 0) = 2");
    }

    /** Only one stretch has a sight, so that a car's need tells the gap that the seed gave there. */
    private static void seedGives(int seed, int[] gaps) {
        for (int i = 0; i < 8; i++) {
            String open = "drift(" + seed + ", 1) = ";
            int g = gaps[i];
            String[] lines = {"sight(" + i + ", 9)", g > 0 ? "teach(0, 1, " + g + ")" : "rule(0)", g > 0 ? open + 1 : "rule(0)",
                g < 9 ? "teach(0, 1, " + (g + 1) + ")" : "rule(0)", g < 9 ? open + 0 : "rule(0)"};
            holds("35 the gap is bits 16 to 30 of it modulo 10: " + seed + ", " + i, "road1 0 0;".repeat(8) + "car one 1 1;", lines);
        }
    }

    // ---- images, sheets

    private static void images() {
        holds("36 IMAGE k (0, 1). BAD", ROAD, "keep(-1) = BAD", "keep(2) = BAD", "keep(MIN) = BAD", "keep(MAX) = BAD", "count(1) = 0",
            "keep(1) = 0", "count(1) = 1", "keep(1) = 1", "keep(0) = 0", "count(1) = 2", "keep(0) = 1");
        holds("37 BAD; STATE: there is none", ROAD, "back(-1) = BAD", "back(2) = BAD", "back(MIN) = BAD", "back(MAX) = BAD", "back(0) = STATE",
            "back(1) = STATE", "on()", "keep(1)", "back(0) = STATE", "back(1) = 1");
        holds("37 All is as IMAGE k: the road", ROAD, "keep(0)", "gap(0, 0)", "sight(0, 0)", "odd(0, 0)", "build(0, 0, false)",
            "build(0, 1, true)", "build(0, 2, true)", "polite(6)", "back(0) = 0", "road(0, 1) = 5", "road(0, 2) = 3", "road(0, 3) = 10",
            "road(0, 4) = 0", "road(0, 5) = 1", "road(0, 6) = 0", "rule(3) = 3");
        holds("37 All is as IMAGE k: CARS", ROAD, "on() = 1", "keep(0)", "teach(0, 4, 9)", "on()", "rule(4) = 2", "back(0) = 1", "car(0, 0) = 1",
            "car(0, 1) = 3", "car(0, 3) = 4", "car(1, 3) = 12", "rule(4) = 1", "rule(5) = 12", "rule(6) = 1");
        holds("37 an IMAGE stays as it was", ROAD, "keep(0)", "on()", "back(0) = 0", "on()", "on()", "back(0) = 0", "rule(5) = 0", "rule(6) = 0",
            "count(1) = 1");
        holds("37 IMAGES are apart", ROAD, "keep(0)", "on()", "keep(1)", "on()", "back(0) = 0", "back(1) = 1", "back(0) = 0", "keep(1) = 1",
            "back(1) = 0");
        holds("36 all but THE TAPE, what was SEEN, SHEETS, IMAGES", ROAD, "see(0, 1)", "keep(0)", "bytes(road) = 4", "see(0, 1)",
            "sheet(0, 0, 7)", "keep(1)", "back(0) = 0", "count(2) = 4", "count(0) = 2", "count(3) = 7", "count(1) = 2");
        holds("37 with all have come", "road 1 9 9;car one 1 1;", "on() = 1", "keep(0) = 0", "back(0) = 1", "on() = STATE");
        holds("36 without a road", NO_TEXT, "keep(0) = 0", "back(0) = 0", "tell(road 1 1 1;) = 1", "back(0) = STATE", "rule(0) = 1");
        holds("37 a text that is refused leaves IMAGES", ROAD, "on()", "keep(0)", "on()", "tell(@) = -10", "back(0) = 1");
    }

    private static void sheets() {
        holds("38 SHEETS 0 to 3, lanes 0 to 2. BAD", NO_TEXT, "sheet(-1, 0, 1) = BAD", "sheet(4, 0, 1) = BAD", "sheet(MIN, 0, 1) = BAD",
            "sheet(MAX, 0, 1) = BAD", "sheet(0, -1, 1) = BAD", "sheet(0, 3, 1) = BAD", "sheet(0, MIN, 1) = BAD", "sheet(0, MAX, 1) = BAD",
            "count(3) = NONE", "sheet(0, 0, 1) = 1", "sheet(3, 2, 1) = 1");
        holds("38 BAD: also n above 40; -10 - 4", NO_TEXT, "sheet(0, 0, 41) = BAD", "sheet(0, 0, MAX) = BAD", "sheet(0, 0, -1) = -14",
            "sheet(0, 2, MIN) = -14", "count(3) = NONE", "sheet(0, 0, 0) = 1", "count(3) = 0", "sheet(0, 1, 40) = 1", "count(3) = 40",
            "sheet(0, 0, -1) = -14", "count(3) = 40", "sheet(0, 0, 41) = BAD", "count(3) = 40", "torn() = 0");
        String road = "road1 9 0;".repeat(8) + "car one 9 1;";
        holds("38 A SHEET is a new row of CELLS 0", road, "sheet(0, 0, 2)", "lay(0, 0, 9)", "lay(0, 1, 9)", "sheet(0, 0, 2) = 1",
            "read(0, 0, 0, 2) = 2", "rule(6) = 0", "lay(0, 0, 9)", "sheet(0, 2, 3) = 1", "read(0, 2, 0, 3) = 3", "rule(6) = 0",
            "read(0, 0, 0, 1) = 0", "torn() = 3");
        holds("38 CELLS 0, the first, the last", "road 1 9 9;road 1 9 9;car one 1 1;", "sheet(1, 0, 40)", "read(1, 0, 0, 1) = 1", "rule(6) = 0",
            "lay(1, 39, 9)", "sheet(1, 0, 40)", "read(1, 0, 39, 1) = 1", "rule(6) = 0");
        holds("38 SHEETS are apart", road, "sheet(1, 0, 1)", "sheet(2, 1, 1)", "lay(1, 0, 9)", "read(2, 1, 0, 1) = 1", "rule(6) = 0",
            "lay(0, 0, 1) = -11", "lay(3, 0, 1) = -11", "read(1, 0, 0, 1) = 1", "rule(6) = 1");
        holds("39 BAD: k; NULL, INDEX", NO_TEXT, "lay(-1, 0, 0) = BAD", "lay(4, 0, 0) = BAD", "lay(MIN, 0, 0) = BAD", "lay(MAX, 0, 0) = BAD",
            "lay(0, 0, 0) = -11", "lay(0, -1, 0) = -11", "sheet(0, 0, 40)", "lay(0, -1, 0) = -12", "lay(0, 40, 0) = -12", "lay(0, MIN, 0) = -12",
            "lay(0, MAX, 0) = -12", "lay(0, 39, 0) = 1", "lay(0, 0, 0) = 1", "torn() = 0");
        holds("39 INDEX of a SHEET without CELLS, of a shorter one", NO_TEXT, "sheet(3, 2, 0)", "lay(3, 0, 0) = -12", "lay(3, -1, 0) = -12",
            "sheet(3, 2, 5)", "lay(3, 4, 0) = 1", "lay(3, 5, 0) = -12", "sheet(3, 1, 1)", "lay(3, 1, 0) = -12");
        lowestBits(0, road, "256", "265", "-247", "255", "128", "127", "10", "-1", "266");
        lowestBits(1, road, "65536", "65545", "-65527", "65535", "32768", "32767", "10", "-1", "256");
        holds("39 v (its lowest bits): INTS", road, "sheet(0, 2, 1)", "lay(0, 0, 65536)", "read(0, 2, 0, 1) = -20", "lay(0, 0, 256)",
            "read(0, 2, 0, 1) = -20", "lay(0, 0, MIN)", "read(0, 2, 0, 1) = -20", "lay(0, 0, MAX)", "read(0, 2, 0, 1) = -20", "lay(0, 0, 10)",
            "read(0, 2, 0, 1) = -20", "lay(0, 0, -1)", "read(0, 2, 0, 1) = -20", "lay(0, 0, 9)", "read(0, 2, 0, 1) = 1", "rule(6) = 1");
    }

    /** Of v: one that becomes 0, two that become 9, the rest no gaps. */
    private static void lowestBits(int lane, String road, String... v) {
        String read = "read(0, " + lane + ", 0, 1) = ";
        List<String> lines = new ArrayList<>(List.of("sheet(0, " + lane + ", 1)"));
        for (int n = 3; n < v.length; n++) {
            lines.add("lay(0, 0, " + v[n] + ") = 1");
            lines.add(read + -20);
        }
        lines.addAll(List.of("keep(0)", "lay(0, 0, " + v[0] + ") = 1", read + 1, "rule(6) = 0", "lay(0, 0, " + v[1] + ") = 1", read + 1,
            "rule(6) = 1", "back(0)", "lay(0, 0, " + v[2] + ") = 1", read + 1, "rule(6) = 1"));
        holds("39 v (its lowest bits): lane " + lane, road, lines.toArray(new String[0]));
    }

    private static void reading() {
        String road = "road1 9 0;".repeat(8) + "car one 4 1;";
        holds("40 BAD: k, lane, n", road, "sheet(0, 0, 40)", "read(-1, 0, 0, 1) = BAD", "read(4, 0, 0, 1) = BAD", "read(0, -1, 0, 1) = BAD",
            "read(0, 3, 0, 1) = BAD", "read(0, 0, 0, -1) = BAD", "read(0, 0, 0, 21) = BAD", "read(MIN, MIN, MIN, MIN) = BAD",
            "read(MAX, 0, 0, 1) = BAD", "read(0, 0, 0, MAX) = BAD", "torn() = 0", "rule(4) = 0");
        holds("40 n (0 to 20) gaps: none", road, "sheet(0, 0, 40)", "read(0, 0, 0, 0) = 0", "read(0, 0, MAX, 0) = 0", "torn() = 0", "rule(4) = 0");
        holds("40 n (0 to 20) gaps: 20", road, "sheet(0, 0, 40)", "read(0, 0, 20, 20) = -28", "rule(4) = 0", "read(0, 0, 32, 20) = 8",
            "torn() = 2", "rule(4) = 8");
        holds("40 from CELL f on", road, "sheet(1, 1, 3)", "lay(1, 2, 4)", "read(1, 1, 0, 2) = 2", "rule(6) = 0", "read(1, 1, 2, 1) = 1",
            "rule(6) = 1", "rule(4) = 3");
        holds("40 NULL: nothing", road, "read(0, 0, 0, 1) = 0", "torn() = 1", "read(1, 1, 0, 20) = 0", "read(2, 2, MIN, 1) = 0",
            "read(3, 0, MAX, 1) = 0", "torn() = 1", "rule(4) = 0");
        holds("40 INDEX: below, behind, far off", road, "sheet(0, 2, 3)", "read(0, 2, -1, 3) = 0", "torn() = 2", "rule(4) = 0",
            "read(0, 2, 0, 1) = 1", "torn() = 0", "read(0, 2, 3, 1) = 0", "torn() = 2", "read(0, 2, MAX, 20) = 0", "read(0, 2, MIN, 20) = 0",
            "torn() = 2", "rule(4) = 1");
        holds("40 INDEX of a SHEET without CELLS", road, "sheet(0, 0, 0)", "read(0, 0, 0, 1) = 0", "torn() = 2");
        holds("40 CAST (another lane)", road, "sheet(0, 0, 1)", "sheet(1, 1, 1)", "sheet(2, 2, 1)", "read(0, 1, 0, 1) = 0", "torn() = 3",
            "read(0, 0, 0, 1) = 1", "torn() = 0", "read(0, 2, 0, 1) = 0", "torn() = 3", "read(1, 1, 0, 1) = 1", "torn() = 0",
            "read(1, 0, 0, 1) = 0", "torn() = 3", "read(2, 2, 0, 1) = 1", "read(2, 1, 5, 1) = 0", "torn() = 3", "rule(4) = 3");
        holds("40 What the machine refuses: those ahead were", road, "sheet(0, 0, 3)", "lay(0, 2, 4)", "read(0, 0, 1, 3) = 2", "torn() = 2",
            "rule(4) = 2", "rule(6) = 1", "rule(5) = 10", "car(0, 3) = 6");
        holds("40 -20 less i: gap i is refused by drive(): then none was", road, "sheet(0, 1, 4)", "lay(0, 0, 9)", "lay(0, 2, 10)",
            "read(0, 1, 0, 4) = -22", "rule(4) = 0", "rule(6) = 0", "read(0, 1, 2, 1) = -20", "lay(0, 2, -1)", "read(0, 1, 1, 2) = -21",
            "read(0, 1, 0, 2) = 2", "rule(6) = 1");
        holds("40 refused by drive() in whichever way: all have come", "road 1 9 0;road 1 9 0;car one 4 1;", "sheet(0, 0, 4)", "lay(0, 0, 9)",
            "read(0, 0, 0, 3) = -22", "rule(4) = 0", "rule(6) = 0", "read(0, 0, 0, 2) = 2", "read(0, 0, 0, 1) = -20", "read(0, 0, 0, 0) = 0",
            "rule(4) = 2");
        holds("40 the first met", "road 1 9 0;car one 4 1;", "sheet(0, 0, 2)", "lay(0, 1, 10)", "read(0, 0, 0, 3) = -21", "torn() = 0",
            "sheet(1, 0, 1)", "read(1, 0, 0, 3) = 1", "torn() = 2", "read(1, 0, 1, 1) = 0", "torn() = 2", "read(1, 1, 0, 1) = 0", "torn() = 3",
            "read(2, 1, 0, 1) = 0", "torn() = 1", "read(1, 0, 0, 1) = -20", "torn() = 1");
        holds("40 eight at once, the ninth refused", road, "sheet(0, 0, 9)", "read(0, 0, 0, 9) = -28", "rule(4) = 0", "read(0, 0, 0, 8) = 8",
            "torn() = 0", "rule(4) = 8");
        holds("41 The FAULT of the latest read() that came to an end; 0", road, "torn() = 0", "sheet(0, 0, 2)", "lay(0, 1, 10)",
            "read(0, 1, 0, 1) = 0", "torn() = 3", "read(0, 0, 0, 2) = -21", "torn() = 3", "read(0, 0, 0, 21) = BAD", "torn() = 3",
            "lay(0, 9, 1) = -12", "torn() = 3", "lay(1, 0, 0) = -11", "torn() = 3", "sheet(0, 0, -1) = -14", "torn() = 3", "drive(0)",
            "torn() = 3", "read(0, 0, 0, 1) = 1", "torn() = 0");
        holds("41 read() of no gaps comes to an end", road, "read(0, 0, 0, 1) = 0", "torn() = 1", "sheet(0, 0, 1)", "read(0, 0, 0, 0) = 0",
            "torn() = 0");
    }

    private static void counts() {
        holds("42 BAD", ROAD, "count(-1) = BAD", "count(7) = BAD", "count(MIN) = BAD", "count(MAX) = BAD");
        holds("42 0 SEEN, 1 IMAGES, 2 bytes on THE TAPE", ROAD, "count(0) = 0", "see(0, 1)", "count(0) = 1", "count(1) = 0", "keep(1)",
            "count(1) = 1", "keep(0)", "count(1) = 2", "count(2) = 0", "feed(32)", "count(2) = 1");
        holds("42 3 CELLS of SHEET 0 (NONE: nothing)", NO_TEXT, "sheet(1, 0, 9)", "sheet(2, 0, 9)", "sheet(3, 0, 9)", "count(3) = NONE",
            "sheet(0, 2, 1)", "count(3) = 1", "sheet(0, 1, 0)", "count(3) = 0", "sheet(0, 0, 40)", "count(3) = 40");
        holds("42 5 MILES that are left, of each STRETCH", "road 1 9 0;road 3 5 2;road 2 7 8;", "count(5) = 6", "on()", "count(5) = 5",
            "on()", "count(5) = 2", "on()", "count(5) = 0");
        holds("42 4 CARS that are PAST, 5 MILES that are left, 6 all TIMES of CARS", FULLEST, "count(4) = 0", "count(5) = 72", "count(6) = 0",
            "drive(9) = 63", "count(4) = 6", "count(5) = 63", "count(6) = 270", "on()", "on()", "on()", "on()", "on()", "on()", "count(5) = 9",
            "on()", "count(5) = 0", "count(6) = 2160");
    }

    public static void main(String[] args) {
        for (Method m : BehindTractor.class.getMethods()) {
            if (m.getDeclaringClass() == BehindTractor.class) {
                CALLS.put(m.getName(), m);
            }
        }
        answers();
        stretchesAndCars();
        newObject();
        tape();
        tokens();
        faultOne();
        faultTwo();
        faultThree();
        faultFour();
        faultsFiveAndSix();
        whatThereIs();
        changes();
        kinds();
        orderOfTheRow();
        layBys();
        times();
        driving();
        byOdds();
        costs();
        lanesAndLayBys();
        fairness();
        needs();
        daring();
        arrivals();
        bySeed();
        images();
        sheets();
        reading();
        counts();
        if (!CALLED.containsAll(CALLS.keySet())) {
            fails("the face", "some call was never made");
        }
        System.out.println(wrong == 0 ? "all boundaries hold" : wrong + " boundaries do not hold");
        if (wrong != 0) {
            System.exit(1);
        }
    }
}
