/** Each promise of the document by answers that were worked out by hand. */
public final class PromisesTest {
    private static final int BAD = -1, STATE = -2, FULL = -3, NONE = -4;
    private static final int LOW = Integer.MIN_VALUE, HIGH = Integer.MAX_VALUE;
    private static final String ROAD = "road 2 5 3;road 3 9 8;road 1 4 9;road 4 7 6;slow 6 3;car one 3 2;car never 1 1;"
            + "car follow 4 2;car bold 2 1;car timid 2 3;odds 1 5;odds 3 7;hill 2;layby 3;";
    private static int wrong = 0;

    private static void due(String what, long got, long want) {
        if (got != want) {
            wrong++;
            System.out.println(what + ": answered " + got + ", due is " + want);
        }
    }

    private static void feedAll(BehindTractor x, String text) {
        for (int i = 0; i < text.length(); i++) {
            x.feed(text.charAt(i));
        }
    }

    private static int told(BehindTractor x, String text) {
        feedAll(x, text);
        return x.text();
    }

    private static BehindTractor of(String text) {
        BehindTractor x = new BehindTractor();
        if (told(x, text) < 0) {
            due("text " + text, x.fault(), 0);
        }
        return x;
    }

    private static void faulty(String text, int fault, int place) {
        BehindTractor x = of(ROAD);
        x.drive(3);
        x.keep(0);
        x.see(0, 5);
        due("[" + text + "] text", told(x, text), -10 - place);
        due("[" + text + "] fault", x.fault(), fault);
        due("[" + text + "] leaves the tape empty", x.count(2), 0);
        due("[" + text + "] leaves the road", x.rule(0), 4);
        due("[" + text + "] leaves the stretch", x.rule(4), 1);
        due("[" + text + "] leaves what was seen", x.count(0), 1);
        due("[" + text + "] leaves images", x.count(1), 1);
    }

    private static void newObject() {
        BehindTractor x = new BehindTractor();
        int[] rules = {0, 0, 5, 0, 0, 0, 0};
        for (int what = 0; what < rules.length; what++) {
            due("1 rule " + what, x.rule(what), rules[what]);
        }
        int[] counts = {0, 0, 0, NONE, 0, 0, 0};
        for (int what = 0; what < counts.length; what++) {
            due("1 count " + what, x.count(what), counts[what]);
        }
        due("1 fault", x.fault(), 0);
        due("1 torn", x.torn(), 0);
        due("1 road", x.road(0, 0), BAD);
        due("1 car", x.car(0, 0), BAD);
        due("1 drive", x.drive(0), STATE);
        due("1 on", x.on(), STATE);
        for (int k = 0; k < 4; k++) {
            due("1 lay", x.lay(k, 0, 0), -11);
        }
        due("1 fits 0", x.fits(0), 1);
        due("1 fits 2", x.fits(2), 0);
        due("1 fits 3", x.fits(3), 0);
        due("1 where", x.where(0, 0, 0), BAD);
    }

    private static void tape() {
        BehindTractor x = new BehindTractor();
        due("2 below", x.feed(-1), BAD);
        due("2 above", x.feed(128), BAD);
        due("2 lowest", x.feed(0), 1);
        due("2 highest", x.feed(127), 2);
        due("3 more than there are", x.end(3), BAD);
        due("3 below", x.end(-1), BAD);
        due("3 all", x.end(2), 2);
        due("3 one", x.end(1), 2);
        due("3 none", x.end(0), 1);
        due("3 of none", x.end(0), 0);
        for (int i = 1; i <= 160; i++) {
            due("2 byte " + i, x.feed('a'), i);
        }
        due("2 full", x.feed('a'), FULL);
        due("2 bad before full", x.feed(128), BAD);
        due("42 bytes", x.count(2), 160);
        due("3 keeps the first", x.end(0), 160);
        feedAll(x, "road 1 2 3;@@");
        x.end(11);
        due("3 what is kept is read", x.text(), 1);
    }

    private static void texts() {
        BehindTractor x = of(ROAD);
        due("4 lines", told(x, "  road1 0 0 ;road 09 9 9;hill 0;lane 1;car timid 9 5;  "), 5);
        due("4 the tape is empty", x.count(2), 0);
        due("4 leading 0", x.road(1, 0), 9);
        due("4 hill", x.road(0, 4), 1);
        due("4 no hill", x.road(1, 4), 0);
        due("4 lane", x.road(1, 6), 1);
        due("4 pace by default", x.rule(2), 5);
        due("4 least by default", x.rule(3), 0);
        due("4 odds by default", x.road(0, 3), 10);
        x.keep(1);
        x.drive(9);
        x.see(0, 1);
        due("4 empty", x.text(), 0);
        due("4 no road", x.rule(0), 0);
        due("4 no cars", x.rule(1), 0);
        due("4 nothing seen", x.count(0), 0);
        due("4 no images", x.count(1), 0);
        due("4 odds ahead of the road", told(x, "odds 1 0;lane 0;road 1 1 1;road 2 2 2;"), 4);
        due("4 odds told early", x.road(1, 3), 0);
        due("4 all four of one stretch", told(x, "road 1 1 1;hill 0;odds 0 4;layby 0;lane 0;"), 5);
        String eight = "road 1 1 1;".repeat(8);
        due("4 eight roads", told(x, eight), 8);
        String six = "car one 1 1;".repeat(6);
        due("4 six cars", told(x, six), 6);
        due("4 six", x.rule(1), 6);
        due("4 time anew", x.rule(5) + x.rule(4) + x.rule(6), 0);
    }

    private static void faults() {
        faulty("road 1 1 A;", 1, 9);
        faulty("road 1 1 1;\t", 1, 11);
        faulty("road 100 1 1;", 1, 5);
        faulty("123", 1, 0);
        faulty("road 1 1 1 100;", 1, 11);
        faulty("road 1 1 100 ;", 1, 9);
        faulty("car 100 1 1;", 1, 4);
        faulty("road 0 1 1;", 3, 5);
        faulty("road 10 1 1;", 3, 5);
        faulty("road 1 10 1;", 3, 7);
        faulty("road 1 1 10;", 3, 9);
        faulty("odds 0 11;", 3, 7);
        faulty("road", 2, 4);
        faulty("road  ", 2, 6);
        faulty("road 1 1 1", 2, 10);
        faulty("roads 1 1 1;", 2, 0);
        faulty("roa 1 1 1;", 2, 0);
        faulty("5", 2, 0);
        faulty(";", 2, 0);
        faulty("road 1 1 1;;", 2, 11);
        faulty("road 1;", 2, 6);
        faulty("road 1 x 1;", 2, 7);
        faulty("road 1 1 1 1;", 2, 11);
        faulty("car two 1 1;", 2, 4);
        faulty("car 1 1 1;", 2, 4);
        faulty("car road 1 1;", 2, 4);
        faulty("one 1 1;", 2, 0);
        faulty("car one 0 1;", 3, 8);
        faulty("car one 10 1;", 3, 8);
        faulty("car one 1 0;", 3, 10);
        faulty("car one 1 6;", 3, 10);
        faulty("slow 0 0;", 3, 5);
        faulty("slow 10 0;", 3, 5);
        faulty("slow 9 7;", 3, 7);
        faulty("odds 8 1;", 3, 5);
        faulty("lane 99 @", 3, 5);
        faulty("slow 1 1;slow @", 4, 9);
        faulty("lane 0;lane 0 @", 4, 12);
        faulty("odds 7 1;odds 7 11;", 4, 14);
        faulty("road 1 1 1;".repeat(8) + "road @", 5, 88);
        faulty("car one 1 1;".repeat(6) + "car @", 5, 72);
        faulty("road 1 1 1;hill 1;  ", 6, 20);
        faulty("road 1 1 1;odds 1 1;", 6, 20);
        faulty("layby 7;", 6, 8);
        faulty("lane 0;", 6, 7);
        faulty("a".repeat(160), 2, 0);
        faulty("1".repeat(160), 1, 0);
        faulty(" ".repeat(156) + "road", 2, 160);
        faulty(" ".repeat(154) + "hill 8", 3, 159);
        BehindTractor x = new BehindTractor();
        told(x, "caroads");
        due("4 bytes behind the end are not read", told(x, "car"), -13);
        told(x, "hill 000");
        due("4 figures behind the end are not read", told(x, "hill 0"), -16);
        told(x, "@");
        due("5 fault", x.fault(), 1);
        x.feed('r');
        due("5 stays until the next text", x.fault(), 1);
        x.end(0);
        x.text();
        due("5 none", x.fault(), 0);
    }

    private static void whatThereIs() {
        BehindTractor x = of(ROAD);
        int[] rules = {4, 5, 6, 3, 0, 0, 0};
        for (int what = 0; what < rules.length; what++) {
            due("6 rule " + what, x.rule(what), rules[what]);
        }
        x.drive(3);
        due("6 stretch", x.rule(4), 1);
        due("6 time", x.rule(5), 12);
        due("6 past", x.rule(6), 1);
        due("6 below", x.rule(-1), BAD);
        due("6 above", x.rule(7), BAD);
        int[] last = {4, 7, 6, 7, 0, 1, 0};
        for (int what = 0; what < last.length; what++) {
            due("7 road 3 " + what, x.road(3, what), last[what]);
        }
        due("7 hill", x.road(2, 4), 1);
        due("7 no such stretch", x.road(4, 0), BAD);
        due("7 below", x.road(-1, 0), BAD);
        due("7 what", x.road(0, 7), BAD);
        due("7 what below", x.road(0, -1), BAD);
        int[] bold = {2, 2, 1, 12, 0, 2};
        for (int what = 0; what < bold.length; what++) {
            due("8 car 3 " + what, x.car(3, what), bold[what]);
        }
        due("8 past", x.car(0, 4), 1);
        due("8 none ahead of one past", x.car(0, 5), 0);
        due("8 first", x.car(1, 5), 0);
        x.drive(8);
        due("8 past has none ahead", x.car(3, 5), 0);
        due("8 ahead of the last", x.car(4, 5), 2);
        due("8 no such car", x.car(5, 0), BAD);
        due("8 below", x.car(-1, 0), BAD);
        due("8 what", x.car(0, 6), BAD);
        due("8 what below", x.car(0, -1), BAD);
    }

    private static void ofUse() {
        BehindTractor x = of("road 1 5 3;road 1 0 9;road 1 4 9;road 1 2 0;hill 1;hill 2;lane 3;");
        due("9 gap", x.use(0, 4), 4);
        due("9 sight", x.use(0, 9), 5);
        due("9 hill, 0 at least", x.use(1, 9), 0);
        due("9 hill", x.use(2, 9), 3);
        due("9 lane", x.use(3, 0), 9);
        due("9 stretch", x.use(4, 0), BAD);
        due("9 gap above", x.use(0, 10), BAD);
        due("9 gap below", x.use(0, -1), BAD);
        x.build(3, 2, true);
        due("9 lane uphill", x.use(3, 1), 9);
    }

    private static void changes() {
        BehindTractor x = of(ROAD);
        due("10 was", x.gap(0, 9), 3);
        due("10 is", x.gap(0, 0), 9);
        due("10 above", x.gap(0, 10), BAD);
        due("10 below", x.gap(0, -1), BAD);
        due("10 stretch", x.gap(4, 1), BAD);
        due("10 stays", x.road(0, 2), 0);
        due("11 was", x.sight(1, 0), 9);
        due("11 is", x.sight(1, 9), 0);
        due("11 above", x.sight(1, 10), BAD);
        due("11 below", x.sight(1, -1), BAD);
        due("11 stretch", x.sight(-1, 1), BAD);
        due("12 was", x.odd(3, 10), 7);
        due("12 is", x.odd(3, 0), 10);
        due("12 above", x.odd(3, 11), BAD);
        due("12 below", x.odd(3, -1), BAD);
        due("12 stretch", x.odd(4, 1), BAD);
        due("13 lay by was", x.build(3, 0, false), 1);
        due("13 lay by is not", x.build(3, 0, false), 0);
        due("13 lane", x.build(3, 1, true), 0);
        due("13 lane is", x.road(3, 6), 1);
        due("13 lane still", x.build(3, 1, true), 1);
        due("13 hill", x.build(2, 2, true), 1);
        due("13 what above", x.build(2, 3, true), BAD);
        due("13 what below", x.build(2, -1, true), BAD);
        due("13 stretch", x.build(4, 0, true), BAD);
        due("13 hill is", x.build(1, 2, true) * 10 + x.road(1, 4), 1);
        due("13 others stay", x.road(2, 4) * 100 + x.road(2, 5) * 10 + x.road(2, 6), 100);
        due("14 was", x.polite(6), 3);
        due("14 is", x.polite(0), 6);
        due("14 above", x.polite(7), BAD);
        due("14 below", x.polite(-1), BAD);
        due("15 was", x.teach(4, 2, 9), 4);
        due("15 kind", x.car(4, 0), 2);
        due("15 need", x.car(4, 1), 9);
        due("15 kind above", x.teach(4, 5, 1), BAD);
        due("15 kind below", x.teach(4, -1, 1), BAD);
        due("15 need above", x.teach(4, 1, 10), BAD);
        due("15 need below", x.teach(4, 1, 0), BAD);
        due("15 car", x.teach(5, 1, 1), BAD);
        due("15 refused", x.car(4, 0) * 10 + x.car(4, 1), 29);
    }

    private static void kinds() {
        due("16 one by its need", of("road 1 9 0;car one 4 1;").drive(4), 1);
        due("16 one by less", of("road 1 9 0;car one 4 1;").drive(3), 0);
        due("16 ones behind one another", of("road 1 9 0;car one 4 1;car one 3 1;car one 5 1;").drive(4), 3);
        due("16 one behind never", of("road 1 9 0;car never 1 1;car one 1 1;").drive(9), 0);
        due("16 bold by each", of("road 1 9 0;car never 1 1;car never 1 1;car bold 3 1;").drive(9), 4);
        due("16 bold by less", of("road 1 9 0;car never 1 1;car never 1 1;car bold 3 1;").drive(8), 0);
        due("16 bold counts those behind yet", of("road 1 9 0;car one 2 1;car bold 2 1;").drive(2), 3);
        due("16 follow as one", of("road 1 9 0;car follow 4 1;").drive(4), 1);
        due("16 follow by less", of("road 1 9 0;car follow 4 1;").drive(3), 0);
        due("16 follow behind one that passed", of("road 1 9 0;car one 1 1;car follow 9 1;car follow 9 1;").drive(1), 7);
        due("16 follow, somebody ahead", of("road 1 9 0;car never 1 1;car bold 1 1;car follow 1 1;").drive(9), 2);
        BehindTractor x = of("road 1 9 0;road 1 9 0;car one 1 1;car one 2 1;car follow 9 1;");
        due("16 one ahead stays", x.drive(1), 1);
        due("16 follow only in that stretch", x.drive(2), 6);
        x = of("road 1 9 0;road 1 9 0;car one 1 1;car follow 9 1;");
        x.teach(1, 0, 9);
        x.drive(1);
        x.teach(1, 3, 9);
        due("16 follow not in a later stretch", x.drive(1), 0);
        due("16 timid by twice", of("road 1 9 0;car timid 4 1;").drive(8), 1);
        due("16 timid by less", of("road 1 9 0;car timid 4 1;").drive(7), 0);
        due("16 timid never by 5", of("road 1 9 0;lane 0;car timid 5 1;").drive(9), 0);
        due("16 third lane", of("road 1 0 0;lane 0;car one 9 1;").drive(0), 1);
        due("16 lay by", of("road 1 0 0;layby 0;slow 5 2;car never 1 1;car never 1 1;").drive(0), 3);
        due("16 too few", of("road 1 0 0;layby 0;slow 5 3;car never 1 1;car never 1 1;").drive(0), 0);
        due("16 never politely", of("road 1 0 0;layby 0;car never 1 1;").drive(0), 0);
    }

    private static void driving() {
        BehindTractor x = of(ROAD);
        due("16 below", x.drive(-1), BAD);
        due("16 above", x.drive(10), BAD);
        due("16 first", x.drive(3), 1);
        due("16 time of one past", x.car(0, 3), 4);
        due("16 time of one behind", x.car(1, 3), 12);
        due("17 second", x.on(), 8);
        due("17 bold's time", x.car(3, 3), 15);
        due("17 third", x.on(), 0);
        due("17 lay by", x.on(), 22);
        int[] times = {20, 40, 44, 20, 48};
        for (int k = 0; k < times.length; k++) {
            due("17 time " + k, x.car(k, 3), times[k]);
        }
        due("17 tractor", x.rule(5), 60);
        due("17 all have come", x.on(), STATE);
        due("16 all have come", x.drive(0), STATE);
        due("16 bad first", x.drive(10), BAD);
        due("18 at the end", x.ahead(4, 0), 48);
        due("18 none", x.ahead(4, 1), NONE);
        due("42 past", x.count(4), 5);
        due("42 miles", x.count(5), 0);
        due("42 times", x.count(6), 172);
    }

    private static void lookingAhead() {
        BehindTractor x = of(ROAD);
        int[] times = {20, 40, 44, 20, 48};
        int[] places = {0, 3, 3, 1, 3};
        for (int k = 0; k < times.length; k++) {
            due("18 time " + k, x.ahead(k, 0), times[k]);
            due("18 place " + k, x.ahead(k, 1), places[k]);
        }
        due("18 car", x.ahead(5, 0), BAD);
        due("18 below", x.ahead(-1, 0), BAD);
        due("18 what", x.ahead(0, 2), BAD);
        due("18 what below", x.ahead(0, -1), BAD);
        int[] tails = {31, 30, 22, 22, 0, 0, 0, 0, 0};
        for (int n = 0; n < tails.length; n++) {
            due("19 tail " + n, x.tail(n), tails[n]);
        }
        due("19 below", x.tail(-1), BAD);
        due("19 above", x.tail(9), BAD);
        due("20 lost", x.lost(), 82);
        due("18 to 20 change nothing", x.rule(4) + x.rule(6) + x.count(6), 0);
        x.on();
        due("18 past already", x.ahead(0, 1), NONE);
        due("19 from here", x.tail(1), 22);
        due("20 from here", x.lost(), 172 - 4 - 12 * 4 - 8 * (2 + 1 + 2 + 1 + 3));
        due("20 below 0", of("road 2 1 0;slow 1 0;car never 1 5;").lost(), 2 - 10);
        x.polite(0);
        due("18 not in these", x.ahead(1, 1), NONE);
    }

    private static void byOdds() {
        BehindTractor x = of(ROAD);
        due("21 by the lay by", x.past(3, 0), 1);
        due("21 by", x.past(3, 1), 1);
        due("22 mean", x.mean(3, 0), 30);
        due("23 row", x.row(0), 0);
        due("24 where", x.where(3, 1, 0) * 10 + x.where(3, 1, 1), 12);
        due("24 lay by", x.where(3, 3, 0) * 10 + x.where(3, 3, 1), 12);
        due("24 not there", x.where(3, 2, 0) * 10 + x.where(3, 2, 1), 1);
        x.polite(0);
        due("21", x.past(3, 0) * 100 + x.past(3, 1), 1720);
        due("21 never", x.past(1, 0) * 10 + x.past(1, 1), 1);
        due("22", x.mean(3, 0) * 10 + x.mean(3, 1), 331);
        due("23", x.row(0) * 100 + x.row(1), 6320);
        due("24", x.where(3, 3, 0) * 100 + x.where(3, 3, 1), 720);
        x.odd(3, 0);
        due("22 in parts", x.mean(3, 0) * 10 + x.mean(3, 1), 401);
        x.on();
        due("24 past already", x.where(0, 1, 0) * 10 + x.where(0, 1, 1), 1);
        due("21 past already", x.past(0, 0) * 10 + x.past(0, 1), 11);
        due("24 a stretch behind", x.where(0, 0, 0), BAD);
        due("24 no such stretch", x.where(0, 4, 0), BAD);
        due("24 car", x.where(5, 1, 0), BAD);
        due("24 what", x.where(0, 1, 2), BAD);
        due("21 car", x.past(-1, 0), BAD);
        due("21 what", x.past(0, 2), BAD);
        due("22 car", x.mean(5, 0), BAD);
        due("22 what", x.mean(0, -1), BAD);
        due("23 what", x.row(2), BAD);
        due("23 what below", x.row(-1), BAD);
        BehindTractor y = of("road 9 9 9;".repeat(8) + "slow 9 0;car one 9 1;");
        for (int i = 0; i < 8; i++) {
            y.odd(i, 1);
        }
        due("21 exactly", y.past(0, 0), 100000000L - 43046721L);
        due("21 exactly, by", y.past(0, 1), 100000000L);
        due("24 exactly", y.where(0, 7, 0), 4782969L);
        due("24 exactly, by", y.where(0, 7, 1), 100000000L);
    }

    private static void whatToDo() {
        BehindTractor x = of(ROAD);
        due("25 never costs the rest", x.cost(1), 10046);
        due("25 car", x.cost(5), BAD);
        due("25 below", x.cost(-1), BAD);
        due("25 none", x.cost(0), 10000);
        due("25 more", of("road 1 9 2;road 1 9 2;layby 1;slow 5 2;car never 1 1;car bold 2 1;").cost(1), 10000 - 4);
        due("26 where", x.third(0), 0);
        due("26 how many", x.third(1), 10);
        due("26 one minute", of("road 1 0 0;slow 2 0;car one 1 1;").third(1), 1);
        due("26 what", x.third(2), BAD);
        due("26 what below", x.third(-1), BAD);
        due("26 none", of("road 1 9 0;car never 1 1;").third(1), NONE);
        due("26 has one", of("road 1 9 0;lane 0;car one 1 1;").third(0), NONE);
        // one car gains in the first stretch what the other loses there
        BehindTractor tied = of("road 1 9 0;road 1 9 2;slow 3 0;car one 9 1;car bold 1 5;");
        due("26 of several the first", tied.third(0) * 10 + tied.third(1), 2);
        due("27 of several the first", tied.layby(0) * 10 + tied.layby(1), 2);
        due("27 least is 1 then", of("road 1 0 0;slow 2 6;car never 1 1;").layby(1), 1);
        due("27 where", x.layby(0), 0);
        due("27 how many", x.layby(1), 82);
        due("27 what", x.layby(2), BAD);
        due("27 what below", x.layby(-1), BAD);
        due("27 none left", of("road 1 9 0;layby 0;car never 1 1;").layby(0), NONE);
        due("27 slower", of("road 1 9 0;slow 1 0;car never 1 5;").layby(0), NONE);
        x.on();
        due("26 of those left", x.third(0), NONE);
        due("27 of those left", x.layby(0), 1);
        x = of(ROAD);
        due("28 least", x.fair(0), 1);
        due("28 sum", x.fair(1), 172);
        due("28 what", x.fair(2), BAD);
        due("28 what below", x.fair(-1), BAD);
        due("28 several", of("road 1 9 9;car one 1 1;").fair(0), 0);
        due("29 by all", x.need(0), NONE);
        x.polite(0);
        due("29 one", x.need(0), 9);
        due("29 bold", x.need(3), 3);
        due("29 never", x.need(1), 1);
        due("29 car", x.need(5), BAD);
        due("29 below", x.need(-1), BAD);
        x.on();
        due("29 past", x.need(0), STATE);
        due("25 to 29 change nothing", x.car(0, 1) * 100 + x.rule(3) * 10 + x.rule(4), 301);
    }

    private static void daring() {
        BehindTractor x = of(ROAD);
        due("30 at once", x.dare(1, 0) * 10 + x.dare(1, 1), 391);
        due("30 first", x.dare(1, 2), 0);
        x.teach(0, 1, 4);
        due("30 later", x.dare(1, 0) * 100 + x.dare(1, 1), 20110);
        due("30 first then", x.dare(1, 2), 1);
        due("30 too dear", x.dare(30, 0) * 10 + x.dare(30, 1), 1);
        due("30 in none", x.dare(30, 2), NONE);
        due("30 risk below", x.dare(-1, 0), BAD);
        due("30 risk above", x.dare(100, 0), BAD);
        due("30 what", x.dare(0, 3), BAD);
        due("30 what below", x.dare(0, -1), BAD);
        due("30 only where better", of("road 1 9 0;car one 1 1;").dare(0, 2), NONE);
        due("30 timid", of("road 1 9 9;car timid 5 1;").dare(0, 2), NONE);
        due("30 third lane", of("road 2 0 0;odds 0 0;lane 0;car one 9 1;").dare(1, 0), 7);
        due("30 lay bys aside", of("road 2 9 0;layby 0;slow 5 1;car one 1 1;").dare(0, 0), 0);
        due("30 alone", of("road 2 9 4;car never 1 1;car bold 4 1;").dare(0, 0), 0);
        BehindTractor y = of("road 2 9 4;road 1 9 8;car one 4 1;car never 1 1;car bold 4 1;");
        y.on();
        due("30 the first behind is never", y.dare(0, 2), NONE);
        y.teach(1, 2, 8);
        due("30 the first behind", y.dare(1, 0), 3);
        due("30 nobody", of("road 1 9 9;").dare(0, 0), STATE);
        due("30 bad before", of("road 1 9 9;").dare(100, 0), BAD);
        BehindTractor z = of("road 1 9 9;car never 1 1;");
        z.on();
        due("30 no stretch left", z.dare(5, 0) * 10 + z.dare(5, 1), 1);
        due("30 no stretch to dare in", z.dare(5, 2), NONE);
    }

    private static void arrivals() {
        BehindTractor x = of(ROAD);
        x.polite(0);
        due("33 all sets", x.fits(0), 16);
        due("31 seen", x.see(0, 28), 1);
        due("33 how many", x.fits(0), 4);
        due("33 least", x.fits(1), 2);
        due("33 in all", x.fits(2), 2);
        due("33 in none", x.fits(3), 1);
        due("33 what", x.fits(4), BAD);
        due("33 what below", x.fits(-1), BAD);
        due("34 could", x.could(), 9);
        due("31 second", x.see(3, 999), 2);
        due("33 none", x.fits(0), 0);
        due("33 no least", x.fits(1), NONE);
        due("33 no all", x.fits(2), NONE);
        due("33 no none", x.fits(3), NONE);
        due("34 nobody", x.could(), 0);
        due("32 above", x.forget(3), BAD);
        due("32 below", x.forget(-1), BAD);
        due("32 had", x.forget(1), 2);
        due("32 the first stays", x.fits(0), 4);
        due("31 car", x.see(5, 0), BAD);
        due("31 time above", x.see(0, 1000), BAD);
        due("31 time below", x.see(0, -1), BAD);
        for (int n = 2; n <= 6; n++) {
            due("31 more", x.see(0, 28), n);
        }
        due("31 full", x.see(0, 0), FULL);
        due("31 bad before full", x.see(5, 0), BAD);
        due("42 seen", x.count(0), 6);
        due("32 all", x.forget(0), 6);
        x.see(1, 60);
        x.see(3, 60);
        due("33 each car by itself", x.fits(0), 4);
        due("33 bold is behind", x.fits(3), 10);
        x.forget(0);
        x.drive(0);
        x.see(0, 28);
        due("33 of those left", x.fits(0), 4);
        due("33 least of those left", x.fits(1), 2);
        due("33 in none of those left", x.fits(3), 0);
    }

    private static void bySeed() {
        BehindTractor x = of("road 2 9 1;road 1 9 1;road 3 9 1;car one 5 1;car timid 4 2;");
        long seed = 7;
        int[] gaps = new int[3];
        for (int i = 0; i < 3; i++) {
            seed = seed * 1103515245L + 12345 & 0xffffffffL;
            gaps[i] = (int) ((seed >> 16 & 32767) % 10);
        }
        int sum = x.drift(7, 0);
        int bits = x.drift(7, 1);
        due("35 by itself", x.rule(4) + x.count(6), 0);
        for (int gap : gaps) {
            x.drive(gap);
        }
        due("35 sum", sum, x.count(6));
        due("35 bits", bits, x.rule(6));
        due("35 what", x.drift(7, 2), BAD);
        due("35 what below", x.drift(7, -1), BAD);
        due("35 nothing left", x.drift(LOW, 0), sum);
    }

    private static void images() {
        BehindTractor x = of(ROAD);
        due("37 none", x.back(0), STATE);
        due("37 no such", x.back(2), BAD);
        due("36 no such", x.keep(2), BAD);
        due("36 below", x.keep(-1), BAD);
        x.on();
        due("36 new", x.keep(0), 0);
        due("42 images", x.count(1), 1);
        x.on();
        x.gap(3, 1);
        x.build(3, 0, false);
        x.polite(6);
        x.teach(2, 2, 1);
        x.see(1, 2);
        x.feed('a');
        due("36 other", x.keep(1), 0);
        due("37 back", x.back(0), 1);
        due("37 times", x.count(6), 4 + 4 * 12);
        due("37 gap", x.road(3, 2), 6);
        due("37 lay by", x.road(3, 5), 1);
        due("37 least", x.rule(3), 3);
        due("37 kind", x.car(2, 0), 3);
        due("37 need", x.car(2, 1), 4);
        due("37 seen stays", x.count(0), 1);
        due("37 tape stays", x.count(2), 1);
        due("37 other", x.back(1), 2);
        due("37 other least", x.rule(3), 6);
        due("36 again", x.keep(0), 1);
        due("42 both", x.count(1), 2);
        due("37 the new one", x.back(0), 2);
    }

    private static void sheets() {
        BehindTractor x = of("road 1 9 5;".repeat(3) + "car one 4 1;");
        due("38 sheet", x.sheet(4, 0, 1), BAD);
        due("38 below", x.sheet(-1, 0, 1), BAD);
        due("38 lane", x.sheet(0, 3, 1), BAD);
        due("38 lane below", x.sheet(0, -1, 1), BAD);
        due("38 size above", x.sheet(0, 0, 41), BAD);
        due("38 size below 0", x.sheet(0, 0, -1), -14);
        due("38 bad first", x.sheet(4, 0, -1), BAD);
        due("42 nothing yet", x.count(3), NONE);
        due("38 no cells", x.sheet(0, 0, 0), 1);
        due("42 no cells", x.count(3), 0);
        due("38 most", x.sheet(0, 0, 40), 1);
        due("42 cells", x.count(3), 40);
        due("39 last", x.lay(0, 39, 4), 1);
        due("39 index", x.lay(0, 40, 4), -12);
        due("39 below", x.lay(0, -1, 4), -12);
        due("39 sheet", x.lay(4, 0, 4), BAD);
        due("39 nothing", x.lay(1, 99, 4), -11);
        due("38 none", x.sheet(1, 1, 0), 1);
        due("39 no cells", x.lay(1, 0, 0), -12);
        due("40 index of no cells", x.read(1, 1, 0, 1), 0);
        due("41 index", x.torn(), 2);
        due("40 none of a sheet", x.read(0, 0, 0, 0), 0);
        due("41 none", x.torn(), 0);
        due("40 last, and one behind it", x.read(0, 0, 39, 2), 1);
        due("41 index behind", x.torn(), 2);
        due("40 those ahead were", x.rule(4) * 10 + x.rule(6), 11);
        due("38 anew", x.sheet(0, 0, 2), 1);
        x.lay(0, 0, 256 + 3);
        x.lay(0, 1, 128);
        due("40 lowest bits; the second is below 0", x.read(0, 0, 0, 2), -21);
        due("40 none was", x.rule(4), 1);
        due("41 of the one before", x.torn(), 2);
        due("40 the first alone", x.read(0, 0, 0, 1), 1);
        due("41 now none", x.torn(), 0);
        x.sheet(2, 1, 3);
        x.lay(2, 0, 65536 + 9);
        x.lay(2, 1, 40000);
        x.lay(2, 2, 10);
        due("40 too great", x.read(2, 1, 2, 1), -20);
        due("40 short below 0", x.read(2, 1, 1, 1), -20);
        due("40 more than stretches", x.read(2, 1, 0, 2), -21);
        due("40 cast", x.read(2, 2, 0, 1), 0);
        due("41 cast", x.torn(), 3);
        due("40 nothing", x.read(3, 0, LOW, 1), 0);
        due("41 null", x.torn(), 1);
        due("40 far", x.read(2, 1, HIGH, 20), 0);
        due("41 far", x.torn(), 2);
        due("40 sheet", x.read(4, 0, 0, 1), BAD);
        due("40 lane", x.read(0, 3, 0, 1), BAD);
        due("40 n above", x.read(0, 0, 0, 21), BAD);
        due("40 n below", x.read(0, 0, 0, -1), BAD);
        due("41 bad ones leave it", x.torn(), 2);
        x.sheet(3, 2, 1);
        x.lay(3, 0, 65536);
        due("40 int is whole", x.read(3, 2, 0, 1), -20);
        x.lay(3, 0, 9);
        due("40 and an index behind", x.read(3, 2, 0, 2), 1);
        due("40 cells 0 anew", x.sheet(3, 2, 1), 1);
        due("40 all have come", x.read(3, 2, 0, 1), -20);
        due("40 the machine first", x.read(3, 2, 1, 1), 0);
        due("41 index first", x.torn(), 2);
    }

    private static void newRows() {
        BehindTractor x = of("road 1 9 5;road 1 9 5;car one 4 1;");
        for (int lane = 0; lane < 3; lane++) {
            x.sheet(0, lane, 2);
            x.lay(0, 0, 9);
            x.lay(0, 1, 9);
        }
        x.sheet(0, 2, 2);
        due("38 a new row", x.read(0, 2, 0, 2), 2);
        due("38 of cells 0", x.rule(6), 0);
    }

    private static void counts() {
        BehindTractor x = of(ROAD);
        due("42 miles", x.count(5), 10);
        x.on();
        due("42 miles left", x.count(5), 8);
        due("42 past", x.count(4), 1);
        due("42 times", x.count(6), 52);
        due("42 below", x.count(-1), BAD);
        due("42 above", x.count(7), BAD);
    }

    public static void main(String[] args) {
        newObject();
        tape();
        texts();
        faults();
        whatThereIs();
        ofUse();
        changes();
        kinds();
        driving();
        lookingAhead();
        byOdds();
        whatToDo();
        daring();
        arrivals();
        bySeed();
        images();
        sheets();
        newRows();
        counts();
        System.out.println(wrong == 0 ? "all promises hold" : wrong + " answers are not as due");
        if (wrong != 0) {
            System.exit(1);
        }
    }
}
