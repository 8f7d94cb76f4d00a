import java.math.BigInteger;

/**
 * One test for each sentence of the document that names a boundary: the least and the greatest input that is
 * taken, the first on either side that is refused, what is empty, what is full, what wraps around, and that a
 * refused call changes nothing. Answers are worked out by hand, or by a formula where the net has one.
 */
public final class BoundariesTest {
    private static final int NONE = -1, BAD = -2, NO = -3;
    private static final int LOWEST = Integer.MIN_VALUE, HIGHEST = Integer.MAX_VALUE;
    private static final int CALLS = 512;

    private interface Call {
        long on(SpreadNets x);
    }

    private interface NumberCall {
        long on(SpreadNets x, int number);
    }

    private interface WordCall {
        long on(SpreadNets x, long word);
    }

    private interface Maker {
        SpreadNets make();
    }

    private static String words = "";
    private static int checks = 0;
    private static int sentences = 0;
    private static int wrong = 0;

    public static void main(String[] args) {
        useOfAnObject();
        termsOfNets();
        termsOfGrowth();
        termsOfWalks();
        termsOfRefusal();
        promisesOfNets();
        promisesOfGrowth();
        promisesOfWalks();
        promisesOfBits();
        System.out.println(sentences + " sentences, " + (wrong == 0 ? "all hold" : wrong + " answers are not as due"));
        if (wrong != 0) System.exit(1);
    }

    private static void useOfAnObject() {
        sentence("An object is used for at most 512 calls after it has been made", BoundariesTest::allCallsOfAnObject);
    }

    private static void termsOfNets() {
        sentence("NETS 0 .. 3", BoundariesTest::netsZeroToThree);
        sentence("KNOTS 0 .. n - 1", BoundariesTest::knotsOfEachSize);
        sentence("KNOTS (1 .. 10)", BoundariesTest::oneToTenKnots);
        sentence("KNOTS (1 at first)", BoundariesTest::oneKnotAtFirst);
        sentence("LINES between two unlike KNOTS", BoundariesTest::unlikeKnots);
        sentence("LINES, one at most", BoundariesTest::oneLineAtMost);
        sentence("LINES are numbered from 0 on by their lesser KNOT, then by the other one", BoundariesTest::numbersOfLines);
        sentence("EVEN-DEGREED (d): all DEGREES are d", BoundariesTest::evenDegreed);
        sentence("STEPS (bits; bit s - 1 for s, 1 .. n / 2)", BoundariesTest::stepsToHalf);
        sentence("KNOT i has a LINE to i + s and i - s, by n left over", BoundariesTest::ringWrapsAround);
        sentence("PRODUCT of two NETS of a and b KNOTS (a b no more than 10)", BoundariesTest::productToTen);
        sentence("KNOT b i + j; LINES where i is alike .. or j alike", BoundariesTest::productWithOneKnot);
    }

    private static void termsOfGrowth() {
        sentence("of all sets of 1 .. n / 2 KNOTS", BoundariesTest::setsToHalf);
        sentence("of like ones the least set as a number", BoundariesTest::leastOfLikeSets);
        sentence("None, if n is 1", BoundariesTest::growthOfOneKnot);
        sentence("OWN NUMBERS: all real, each as often as it is", BoundariesTest::ownNumbersAsOften);
        sentence("-1 for LINES the bit of which is 1 (LINES 0 .. 30 alone)", BoundariesTest::signsOfThirtyOneLines);
        sentence("MORE THAN x (-40 .. 40)", BoundariesTest::halvesToForty);
        sentence("how many OWN NUMBERS are above x halves", BoundariesTest::aboveIsNotAt);
        sentence("THE SECOND: the least x, from -20 on", BoundariesTest::secondFromMinusTwenty);
        sentence("THE SECOND: so that one at most is above x halves", BoundariesTest::secondLeavesOne);
        sentence("THE SPAN: the least x, 0 or more", BoundariesTest::spanFromZero);
        sentence("THE SPAN: none is above x halves, or below -x halves", BoundariesTest::spanOfBothSides);
        sentence("THE BEST SIGNING of a NET with 9 LINES at most", BoundariesTest::bestOfNineLines);
        sentence("THE BEST SIGNING: of like ones the least number", BoundariesTest::leastOfLikeSignings);
    }

    private static void termsOfWalks() {
        sentence("WALKS of t steps (0 .. 12)", BoundariesTest::zeroToTwelveSteps);
        sentence("UNEVEN (of an EVEN-DEGREED NET)", BoundariesTest::unevenOfEvenDegreed);
        sentence("UNEVEN: less d to the t-th", BoundariesTest::unevenPowers);
        sentence("APART: a set A, a set B", BoundariesTest::setsOfKnots);
        sentence("APART: ways that share no KNOT", BoundariesTest::waysShareNoKnot);
        sentence("APART: a KNOT of both is a way by itself", BoundariesTest::knotOfBoth);
        sentence("DISTANCE of two KNOTS: the fewest LINES of a way", BoundariesTest::distances);
        sentence("ROUND: a way back that uses no LINE twice", BoundariesTest::rounds);
        sentence("WORD by LINES (bits of a long; 45 LINES at most)", BoundariesTest::wordsOfFullNets);
        sentence("A KNOT is ODD, if an odd number of its LINES have 1", BoundariesTest::oddKnots);
        sentence("FLIPPED BACK: as long as there is a LINE both ends of which are ODD", BoundariesTest::flippedUntilNone);
        sentence("FLIPPED BACK: the first of these changes its bit", BoundariesTest::flippedFirstFirst);
        sentence("200 changes at most (there are fewer always)", BoundariesTest::flippedFewTimes);
    }

    private static void termsOfRefusal() {
        sentence("Refused, the first of: BAD; NO", BoundariesTest::badBeforeNo);
        sentence("BAD, also where nothing is there to answer NONE", BoundariesTest::badBeforeNone);
        sentence("Refused, changing nothing", BoundariesTest::refusedChangesNothing);
    }

    private static void promisesOfNets() {
        sentence("1: NETS of one KNOT each", BoundariesTest::objectsAreApart);
        sentence("2: A NET of n KNOTS without LINES: 1", BoundariesTest::netWithoutLines);
        sentence("3: A LINE comes, or goes: 1. BAD; NO: it is so", BoundariesTest::lineComesOrGoes);
        sentence("4: A NET becomes a RING of n. BAD: also STEPS beyond n / 2", BoundariesTest::ringRefused);
        sentence("5: the PRODUCT of two (perhaps itself). BAD; NO: above 10", BoundariesTest::productOfItself);
        sentence("6: all LINES which another one (perhaps itself) has not. BAD", BoundariesTest::turnedEmptyAndFull);
        sentence("7: 0 KNOTS, 1 LINES, 2 d, if it is EVEN-DEGREED (NONE), 3 PARTS. BAD", BoundariesTest::aboutZeroToThree);
        sentence("8: NEIGHBOURS of a KNOT, as bits. BAD", BoundariesTest::nearNoneAndAll);
        sentence("9: The number of a LINE. NONE: there is none. BAD", BoundariesTest::numberNone);
    }

    private static void promisesOfGrowth() {
        sentence("10: above (0), below (1; not in lowest terms), the set (2). BAD", BoundariesTest::growthZeroToTwo);
        sentence("10: NONE: none", BoundariesTest::growthOfOneKnot);
        sentence("11: MORE THAN x, SIGNED by bits (0: not). BAD", BoundariesTest::moreSigned);
        sentence("12: How many OWN NUMBERS, so SIGNED, are x halves just. BAD", BoundariesTest::justSigned);
        sentence("13: THE SECOND. BAD", BoundariesTest::secondRefused);
        sentence("14: THE SPAN of a signing. BAD", BoundariesTest::spanRefused);
        sentence("15: THE BEST SIGNING. BAD; NO: above 9 LINES", BoundariesTest::bestRefused);
    }

    private static void promisesOfWalks() {
        sentence("16: WALKS. BAD", BoundariesTest::walksRefused);
        sentence("17: UNEVEN. BAD; NO: not EVEN-DEGREED", BoundariesTest::unevenRefused);
        sentence("18: APART. BAD", BoundariesTest::apartRefused);
        sentence("19: DISTANCE. NONE: there is no way. BAD", BoundariesTest::distanceNone);
        sentence("20: ROUND. NONE: none. BAD", BoundariesTest::roundNone);
    }

    private static void promisesOfBits() {
        sentence("21: How many KNOTS are ODD. BAD: also bits beyond the LINES", BoundariesTest::oddRefused);
        sentence("22: What a WORD FLIPPED BACK is. BAD: -2", BoundariesTest::flippedRefused);
        sentence("23: h = 31 h + v for each v", BoundariesTest::digestWrapsAround);
    }

    // ---- how a sentence is tested

    private static void sentence(String said, Runnable test) {
        words = said;
        int before = checks;
        test.run();
        sentences++;
        if (checks == before) due("checks of this sentence", 0, 1);
    }

    private static void due(String what, long got, long want) {
        checks++;
        if (got != want) {
            wrong++;
            System.out.println("[" + words + "] " + what + " answered " + got + ", due is " + want);
        }
    }

    private static void same(String what, String got, String want) {
        due(what, got.equals(want) ? 0 : 1, 0);
    }

    /** The call is refused by the answer told, and all that can be asked of the object stays as it was. */
    private static void refused(String what, int answer, Maker maker, Call call) {
        SpreadNets x = maker.make();
        String before = all(x);
        due(what, call.on(x), answer);
        same(what + ", all that it changed", all(x), before);
    }

    private static void bad(String what, Call call) {
        refused(what, BAD, BoundariesTest::furnished, call);
    }

    private static void badNumbers(String what, NumberCall call, int... numbers) {
        for (int number : numbers) bad(what + " " + number, x -> call.on(x, number));
    }

    /** The call asks only: it answers as told and changes nothing. */
    private static void asked(String what, long answer, Maker maker, Call call) {
        SpreadNets x = maker.make();
        String before = all(x);
        due(what, call.on(x), answer);
        same(what + ", all that it changed", all(x), before);
    }

    /** All of the state, and some answers that would tell of rows left over inside the object. */
    private static String all(SpreadNets x) {
        StringBuilder told = new StringBuilder();
        for (int net = 0; net < 4; net++) {
            int n = x.about(net, 0);
            told.append(n).append(':');
            for (int k = 0; k < n; k++) told.append(x.near(net, k)).append(' ');
            told.append(x.about(net, 1)).append(' ').append(x.about(net, 2)).append(' ').append(x.about(net, 3));
            told.append(' ').append(x.growth(net, false, 2)).append(' ').append(x.second(net)).append(' ').append(x.span(net, 5));
            told.append(' ').append(x.best(net)).append(' ').append(x.round(net)).append(' ').append(x.walks(net, 0, 0, 4)).append('\n');
        }
        return told.append(x.digest()).toString();
    }

    // ---- nets that the tests begin with

    private static void join(SpreadNets x, int net, String... lines) {
        for (String l : lines) x.line(net, l.charAt(0) - '0', l.charAt(1) - '0', true);
    }

    /** Net 0 with n knots and the lines told as pairs of digits. */
    private static SpreadNets with(int n, String... lines) {
        SpreadNets x = new SpreadNets();
        x.net(0, n);
        join(x, 0, lines);
        return x;
    }

    /** Net 0 of n knots, each joined to each other one, after it had ten such knots. */
    private static SpreadNets full(int n) {
        SpreadNets x = new SpreadNets();
        x.net(0, 10);
        x.turned(0, 0);
        x.net(0, n);
        x.turned(0, 0);
        return x;
    }

    private static SpreadNets path(int n) {
        SpreadNets x = with(n);
        for (int i = 1; i < n; i++) x.line(0, i - 1, i, true);
        return x;
    }

    private static SpreadNets ringOf(int n) {
        SpreadNets x = new SpreadNets();
        x.ring(0, n, 1);
        return x;
    }

    /** Four unlike nets: Petersen's (15 lines, d is 3), a path of three, a ring of four, one knot. */
    private static SpreadNets furnished() {
        SpreadNets x = with(10, "01", "12", "23", "34", "40", "05", "16", "27", "38", "49", "57", "79", "96", "68", "85");
        x.net(1, 3);
        join(x, 1, "01", "12");
        x.ring(2, 4, 1);
        return x;
    }

    /** Four paths of three knots. */
    private static SpreadNets likePaths() {
        SpreadNets x = new SpreadNets();
        for (int net = 0; net < 4; net++) {
            x.net(net, 3);
            join(x, net, "01", "12");
        }
        return x;
    }

    /** How many lines a net of n knots has, if all are there. */
    private static int linesOfFull(int n) {
        return n * (n - 1) / 2;
    }

    /** The number of a line in a net of n knots that has all lines. */
    private static int numberInFull(int n, int lesser, int greater) {
        return lesser * n - lesser * (lesser + 1) / 2 + greater - lesser - 1;
    }

    // ---- What it is

    private static void allCallsOfAnObject() {
        manyTimes("net", 1, x -> x.net(3, 10));
        manyTimes("line refused", NO, x -> x.line(0, 0, 9, true));
        manyTimes("ring", 45, x -> x.ring(3, 10, 31));
        manyTimes("product", 10, x -> x.product(0, 3, 2));
        manyTimes("turned", 0, x -> x.turned(0, 2));
        manyTimes("about", 1, x -> x.about(0, 3));
        manyTimes("near", 511, x -> x.near(0, 9));
        manyTimes("number", 44, x -> x.number(0, 9, 8));
        manyTimes("growth", 31, x -> x.growth(0, true, 2));
        manyTimes("more", 1, x -> x.more(0, 0, -2));
        manyTimes("just", 9, x -> x.just(0, 0, -2));
        manyTimes("second", -2, x -> x.second(0));
        manyTimes("span", 14, x -> x.span(0, HIGHEST));
        manyTimes("best", 0, x -> x.best(1));
        manyTimes("walks", 28242953648L, x -> x.walks(0, 0, 1, 12));
        manyTimes("uneven", 18, x -> x.uneven(0, 0, 12));
        manyTimes("apart", 5, x -> x.apart(0, 31, 992));
        manyTimes("distance", 4, x -> x.distance(1, 0, 5));
        manyTimes("round", 9, x -> x.round(1));
        manyTimes("odd", 10, x -> x.odd(0, (1L << 45) - 1));
        manyTimes("flipped", 17041356357630L, x -> x.flipped(0, (1L << 45) - 1));
        manyTimes("digest", digestOf(ringsOfTenAndNine()), x -> x.digest());
        changesToTheLastCall();
    }

    /** As many calls of one kind as an object is used for, each with the same answer. */
    private static void manyTimes(String what, long answer, Call call) {
        SpreadNets x = ringsOfTenAndNine();
        for (int used = 2; used < CALLS; used++) due(what + ", call " + (used + 1), call.on(x), answer);
    }

    /** Made by two calls: all of ten in net 0, and a ring of nine in net 1. */
    private static SpreadNets ringsOfTenAndNine() {
        SpreadNets x = new SpreadNets();
        x.ring(0, 10, 31);
        x.ring(1, 9, 1);
        return x;
    }

    private static void changesToTheLastCall() {
        SpreadNets x = with(10);
        for (int used = 1; used < CALLS - 1; used++) due("line, call " + (used + 1), x.line(0, 0, 9, used % 2 == 1), 1);
        due("near, call 512", x.near(0, 9), 0);
    }

    // ---- Terms: nets

    private static void netsZeroToThree() {
        eachNet("net", 1, (x, net) -> x.net(net, 2));
        eachNet("line", 1, (x, net) -> x.line(net, 0, 2, true));
        eachNet("ring", 4, (x, net) -> x.ring(net, 4, 1));
        eachNet("product, first", 9, (x, net) -> x.product(net, 1, 2));
        eachNet("product, second", 9, (x, net) -> x.product(1, net, 2));
        eachNet("product, to", 9, (x, net) -> x.product(1, 2, net));
        eachNet("turned, from", 1, (x, net) -> x.turned(net, 1));
        eachNet("turned, to", 1, (x, net) -> x.turned(1, net));
        eachNet("about", 2, (x, net) -> x.about(net, 1));
        eachNet("near", 5, (x, net) -> x.near(net, 1));
        eachNet("number", 1, (x, net) -> x.number(net, 1, 2));
        eachNet("growth", 1, (x, net) -> x.growth(net, false, 0));
        eachNet("more", 1, (x, net) -> x.more(net, 0, 0));
        eachNet("just", 1, (x, net) -> x.just(net, 0, 0));
        eachNet("second", 0, (x, net) -> x.second(net));
        eachNet("span", 3, (x, net) -> x.span(net, 0));
        eachNet("best", 0, (x, net) -> x.best(net));
        eachNet("walks", 1, (x, net) -> x.walks(net, 0, 2, 2));
        eachNet("uneven", NO, (x, net) -> x.uneven(net, 0, 1));
        eachNet("apart", 1, (x, net) -> x.apart(net, 1, 4));
        eachNet("distance", 2, (x, net) -> x.distance(net, 0, 2));
        eachNet("round", NONE, (x, net) -> x.round(net));
        eachNet("odd", 2, (x, net) -> x.odd(net, 1));
        eachNet("flipped", 3, (x, net) -> x.flipped(net, 3));
    }

    private static void eachNet(String what, long answer, NumberCall call) {
        for (int net = 0; net < 4; net++) due(what + " of net " + net, call.on(likePaths(), net), answer);
        for (int net : new int[] {-1, 4, LOWEST, HIGHEST}) {
            refused(what + " of net " + net, BAD, BoundariesTest::likePaths, x -> call.on(x, net));
        }
    }

    private static void knotsOfEachSize() {
        for (int n = 1; n <= 10; n++) {
            knotsTakenOf(n);
            for (int knot : new int[] {-1, n, 10, LOWEST, HIGHEST}) knotRefusedOf(n, knot);
        }
    }

    private static void knotsTakenOf(int n) {
        SpreadNets x = full(n);
        int last = n - 1;
        int others = (1 << n) - 1;
        due("near the first of " + n, x.near(0, 0), others & ~1);
        due("near the last of " + n, x.near(0, last), others & ~(1 << last));
        due("walks from the first to the last of " + n, x.walks(0, 0, last, 1), n == 1 ? 0 : 1);
        due("walks from the last to the first of " + n, x.walks(0, last, 0, 1), n == 1 ? 0 : 1);
        due("uneven from the first of " + n, x.uneven(0, 0, 0), 2 * last);
        due("uneven from the last of " + n, x.uneven(0, last, 0), 2 * last);
        due("distance from the first to the last of " + n, x.distance(0, 0, last), n == 1 ? 0 : 1);
        due("distance from the last to the first of " + n, x.distance(0, last, 0), n == 1 ? 0 : 1);
        if (n == 1) return;
        due("number of first and last of " + n, x.number(0, 0, last), n - 2);
        due("number of last and first of " + n, x.number(0, last, 0), n - 2);
        due("line of first and last of " + n, x.line(0, 0, last, false), 1);
        due("line of last and first of " + n, x.line(0, last, 0, true), 1);
    }

    private static void knotRefusedOf(int n, int knot) {
        Maker maker = () -> full(n);
        String of = " " + knot + " of " + n;
        refused("near" + of, BAD, maker, x -> x.near(0, knot));
        for (boolean there : new boolean[] {true, false}) {
            refused("line from" + of, BAD, maker, x -> x.line(0, knot, 0, there));
            refused("line to" + of, BAD, maker, x -> x.line(0, 0, knot, there));
            refused("line from and to" + of, BAD, maker, x -> x.line(0, knot, knot, there));
        }
        refused("number from" + of, BAD, maker, x -> x.number(0, knot, 0));
        refused("number to" + of, BAD, maker, x -> x.number(0, 0, knot));
        refused("walks from" + of, BAD, maker, x -> x.walks(0, knot, 0, 1));
        refused("walks to" + of, BAD, maker, x -> x.walks(0, 0, knot, 1));
        refused("uneven from" + of, BAD, maker, x -> x.uneven(0, knot, 1));
        refused("distance from" + of, BAD, maker, x -> x.distance(0, knot, 0));
        refused("distance to" + of, BAD, maker, x -> x.distance(0, 0, knot));
        refused("distance from and to" + of, BAD, maker, x -> x.distance(0, knot, knot));
    }

    private static void oneToTenKnots() {
        for (int n = 1; n <= 10; n++) {
            SpreadNets x = furnished();
            due("net of " + n, x.net(2, n), 1);
            due("knots of it", x.about(2, 0), n);
            due("ring of " + n, x.ring(0, n, 0), 0);
            due("knots of the ring", x.about(0, 0), n);
        }
        badNumbers("net of", (x, n) -> x.net(0, n), 0, -1, 11, LOWEST, HIGHEST);
        badNumbers("ring of", (x, n) -> x.ring(0, n, 0), 0, -1, 11, LOWEST, HIGHEST);
    }

    private static void oneKnotAtFirst() {
        SpreadNets x = new SpreadNets();
        for (int net = 0; net < 4; net++) {
            due("knots", x.about(net, 0), 1);
            due("lines", x.about(net, 1), 0);
            due("near the one", x.near(net, 0), 0);
            due("near another", x.near(net, 1), BAD);
        }
    }

    private static void unlikeKnots() {
        for (int n = 1; n <= 10; n++) {
            for (int k = 0; k < n; k++) {
                int knot = k;
                int knots = n;
                refused("line comes to its own knot", BAD, () -> full(knots), x -> x.line(0, knot, knot, true));
                refused("line goes from its own knot", BAD, () -> full(knots), x -> x.line(0, knot, knot, false));
                refused("line comes, no lines there", BAD, () -> with(knots), x -> x.line(0, knot, knot, true));
                refused("line goes, no lines there", BAD, () -> with(knots), x -> x.line(0, knot, knot, false));
                refused("number", BAD, () -> full(knots), x -> x.number(0, knot, knot));
                refused("number, no lines there", BAD, () -> with(knots), x -> x.number(0, knot, knot));
            }
        }
    }

    private static void oneLineAtMost() {
        refused("a second one", NO, () -> with(2, "01"), x -> x.line(0, 0, 1, true));
        refused("a second one, told from its other end", NO, () -> with(2, "01"), x -> x.line(0, 1, 0, true));
        SpreadNets x = with(2, "01", "01", "10");
        due("lines", x.about(0, 1), 1);
        due("it goes at once", x.line(0, 1, 0, false), 1);
        due("lines left", x.about(0, 1), 0);
        due("a ring of two has its line once", x.ring(0, 2, 1), 1);
    }

    private static void numbersOfLines() {
        for (int n = 2; n <= 10; n++) {
            SpreadNets x = full(n);
            int next = 0;
            for (int a = 0; a < n; a++) {
                for (int b = a + 1; b < n; b++) {
                    due("number of " + a + ", " + b + " of " + n, x.number(0, a, b), next);
                    due("number of " + b + ", " + a + " of " + n, x.number(0, b, a), next);
                    next++;
                }
            }
            due("the last is next to how many there are", x.number(0, n - 2, n - 1), x.about(0, 1) - 1);
        }
        SpreadNets x = full(10);
        x.line(0, 0, 1, false);
        due("the first gone, the second is the first", x.number(0, 0, 2), 0);
        due("the first gone, the last moves up", x.number(0, 8, 9), 43);
        x.line(0, 8, 9, false);
        due("the last gone, the first stays", x.number(0, 0, 2), 0);
        due("the last gone, the one ahead stays", x.number(0, 7, 9), 42);
    }

    private static void evenDegreed() {
        for (int n = 1; n <= 10; n++) {
            due("no lines, " + n, with(n).about(0, 2), 0);
            due("all lines, " + n, full(n).about(0, 2), n - 1);
        }
        for (int n = 3; n <= 10; n++) {
            SpreadNets x = full(n);
            x.line(0, 0, 1, false);
            due("one line gone from the first knots of " + n, x.about(0, 2), NONE);
            x = full(n);
            x.line(0, n - 2, n - 1, false);
            due("one line gone from the last knots of " + n, x.about(0, 2), NONE);
        }
        due("only the first knot is unlike", with(9, "12", "34", "56", "78").about(0, 2), NONE);
        due("only the last knot is unlike", with(9, "01", "23", "45", "67").about(0, 2), NONE);
        due("only a middle knot is unlike", with(9, "01", "23", "56", "78").about(0, 2), NONE);
        due("as many at each, though of two parts", with(6, "01", "12", "20", "34", "45", "53").about(0, 2), 2);
    }

    private static void stepsToHalf() {
        for (int n = 1; n <= 10; n++) {
            int knots = n;
            int end = 1 << (n / 2);
            due("no steps, ring of " + n, furnished().ring(0, n, 0), 0);
            due("all steps, ring of " + n, furnished().ring(0, n, end - 1), linesOfFull(n));
            for (int s = 1; s <= n / 2; s++) {
                due("step " + s + " alone, ring of " + n, furnished().ring(0, n, 1 << (s - 1)), 2 * s == n ? s : n);
            }
            NumberCall ring = (x, steps) -> x.ring(0, knots, steps);
            badNumbers("ring of " + n + " by", ring, end, 2 * end - 1, 1 << 30, -1, -end, LOWEST, HIGHEST);
        }
    }

    private static void ringWrapsAround() {
        for (int n = 1; n <= 10; n++) {
            for (int s = 1; s <= n / 2; s++) {
                SpreadNets x = furnished();
                x.ring(0, n, 1 << (s - 1));
                for (int i = 0; i < n; i++) {
                    due("near " + i + " of " + n + " by " + s, x.near(0, i), 1 << (i + s) % n | 1 << (i + n - s) % n);
                }
            }
        }
        SpreadNets x = new SpreadNets();
        x.ring(0, 10, 1 | 16);
        due("near the last: back to the first, and half way", x.near(0, 9), 1 | 256 | 16);
        due("half way around is one line", x.about(0, 1), 15);
    }

    private static void productToTen() {
        for (int a = 1; a <= 10; a++) {
            for (int b = 1; b <= 10; b++) {
                int first = a;
                int second = b;
                Maker maker = () -> twoNets(first, second);
                Call call = x -> x.product(0, 1, 2);
                if (a * b > 10) {
                    refused("product of " + a + " and " + b, NO, maker, call);
                } else {
                    due("product of " + a + " and " + b, call.on(maker.make()), a * b);
                }
            }
        }
    }

    /** Nets 0 and 1 without lines, and something in net 2 that a refused call has to leave. */
    private static SpreadNets twoNets(int a, int b) {
        SpreadNets x = new SpreadNets();
        x.net(0, a);
        x.net(1, b);
        x.ring(2, 5, 1);
        return x;
    }

    private static void productWithOneKnot() {
        SpreadNets x = furnished();
        due("ten by one", x.product(0, 3, 1), 10);
        due("one by ten", x.product(3, 0, 2), 10);
        for (int k = 0; k < 10; k++) {
            due("ten by one, near " + k, x.near(1, k), x.near(0, k));
            due("one by ten, near " + k, x.near(2, k), x.near(0, k));
        }
        due("one by one", x.product(3, 3, 0), 1);
        due("one by one, near 0", x.near(0, 0), 0);
        x = new SpreadNets();
        x.ring(0, 2, 1);
        x.ring(1, 5, 1);
        x.product(0, 1, 2);
        x.product(1, 0, 3);
        due("two by five, near the first", x.near(2, 0), 1 << 1 | 1 << 4 | 1 << 5);
        due("two by five, near the last", x.near(2, 9), 1 << 5 | 1 << 8 | 1 << 4);
        due("five by two, near the first", x.near(3, 0), 1 << 1 | 1 << 2 | 1 << 8);
        due("five by two, near the last", x.near(3, 9), 1 << 8 | 1 << 7 | 1 << 1);
    }

    // ---- Terms: growth, own numbers

    private static void setsToHalf() {
        // Of a path the first n / 2 knots grow least, by one knot and by one line.
        for (int n = 2; n <= 10; n++) {
            grows("path of " + n, path(n), false, 1, n / 2, (1 << n / 2) - 1);
            grows("path of " + n + ", lines", path(n), true, 1, n / 2, (1 << n / 2) - 1);
        }
        // Of all joined to all the most knots grow least: n - k knots and k (n - k) lines by k.
        for (int n = 2; n <= 10; n++) {
            int k = n / 2;
            grows("all of " + n, full(n), false, n - k, k, (1 << k) - 1);
            grows("all of " + n + ", lines", full(n), true, k * (n - k), k, (1 << k) - 1);
        }
        // No set is empty: that would be 0 by none.
        grows("no lines", with(10), false, 0, 1, 1);
        grows("no lines, lines", with(10), true, 0, 1, 1);
        grows("two knots", with(2, "01"), false, 1, 1, 1);
        // {0, 1, 2} is a part of its own, just half of six, but above half of five and of four.
        grows("half of six", with(6, "01", "12", "02", "34", "45", "35"), false, 0, 3, 7);
        grows("above half of five", with(5, "01", "12", "02", "34"), false, 0, 2, 24);
        grows("above half of five, lines", with(5, "01", "12", "02", "34"), true, 0, 2, 24);
        grows("above half of four", with(4, "01", "12", "02"), false, 0, 1, 8);
    }

    private static void grows(String what, SpreadNets x, boolean lines, int above, int below, int set) {
        due(what + ", above", x.growth(0, lines, 0), above);
        due(what + ", below", x.growth(0, lines, 1), below);
        due(what + ", set", x.growth(0, lines, 2), set);
    }

    private static void leastOfLikeSets() {
        grows("all pairs are like", full(4), false, 2, 2, 3);
        // {2} grows by 1 line to 1, {0, 1} by 2 to 2: they are like, and {0, 1} is the lesser number.
        grows("two knots are the lesser number", with(4, "01", "03", "13", "23"), true, 2, 2, 3);
        // {1} grows by 1 line to 1, {1, 2} by 2 to 2: they are like, and {1} is the lesser number.
        grows("one knot is the lesser number", with(5, "01", "02", "03", "04"), true, 1, 1, 2);
        grows("four pairs: the first pair", with(8, "01", "23", "45", "67"), false, 0, 2, 3);
        grows("four pairs, the first of them 6 and 7", with(8, "67", "02", "13", "45"), true, 0, 2, 5);
        grows("a ring of ten: the first five", ringOf(10), false, 2, 5, 31);
    }

    private static void growthOfOneKnot() {
        for (int what = 0; what <= 2; what++) {
            for (int net = 0; net < 4; net++) {
                due("growth", new SpreadNets().growth(net, false, what), NONE);
                due("line growth", new SpreadNets().growth(net, true, what), NONE);
            }
            due("two knots have growth", with(2).growth(0, false, what), what == 0 ? 0 : 1);
            due("two knots have line growth", with(2).growth(0, true, what), what == 0 ? 0 : 1);
        }
    }

    private static void ownNumbersAsOften() {
        for (int n = 1; n <= 10; n++) {
            due("0, no lines, " + n, with(n).just(0, 0, 0), n);
            due("all above less, no lines, " + n, with(n).more(0, 0, -1), n);
        }
        for (int n = 2; n <= 10; n++) {
            due("-1, all of " + n, full(n).just(0, 0, -2), n - 1);
            due("n - 1, all of " + n, full(n).just(0, 0, 2 * n - 2), 1);
            due("-1, above less, all of " + n, full(n).more(0, 0, -3), n);
        }
    }

    private static void signsOfThirtyOneLines() {
        // One line of all of ten signed: 3 + the root of 32, 1, seven times -1, 3 - the root of 32.
        for (int line = 0; line <= 30; line++) {
            due("-1, line " + line + " signed", full(10).just(0, 1 << line, -2), 7);
            due("1, line " + line + " signed", full(10).just(0, 1 << line, 2), 1);
            due("above 17 halves, line " + line + " signed", full(10).more(0, 1 << line, 17), 1);
            due("above -6 halves, line " + line + " signed", full(10).more(0, 1 << line, -6), 10);
        }
        // All signs: all lines of knots 0 .. 3 and line 30 (4, 5); line 31 (4, 6) and on are plain. So e4 - e5 has 1,
        // three of 0 .. 3 have 1, three of 6 .. 9 have -1, and the other three are none of these.
        due("1, lines 0 .. 30 signed", full(10).just(0, HIGHEST, 2), 4);
        due("-1, lines 0 .. 30 signed", full(10).just(0, HIGHEST, -2), 3);
        // With just 31 lines, all of them signed, all own numbers change their side.
        SpreadNets x = thirtyOneLines();
        due("lines", x.about(0, 1), 31);
        for (int h = -18; h <= 18; h++) {
            due("just " + h + ", all 31 signed", x.just(0, HIGHEST, h), x.just(0, 0, -h));
        }
        due("span, all 31 signed", x.span(0, HIGHEST), x.span(0, 0));
        due("bits beyond the lines are passed over", with(2, "01").span(0, HIGHEST - 1), 2);
        due("bits beyond no lines at all", new SpreadNets().more(0, HIGHEST, -1), 1);
        badNumbers("more, signs", (y, signs) -> y.more(0, signs, 0), -1, LOWEST, LOWEST + 1);
        badNumbers("just, signs", (y, signs) -> y.just(0, signs, 0), -1, LOWEST, LOWEST + 1);
        badNumbers("span, signs", (y, signs) -> y.span(0, signs), -1, LOWEST, LOWEST + 1);
    }

    /** All of eight (28 lines), and knots 8 and 9 joined to 7 and to each other. */
    private static SpreadNets thirtyOneLines() {
        SpreadNets x = new SpreadNets();
        x.net(0, 10);
        for (int a = 0; a < 8; a++) {
            for (int b = a + 1; b < 8; b++) x.line(0, a, b, true);
        }
        join(x, 0, "78", "79", "89");
        return x;
    }

    private static void halvesToForty() {
        for (int n = 1; n <= 10; n++) {
            due("more than -40, all of " + n, full(n).more(0, 0, -40), n);
            due("more than -40, all signed", full(n).more(0, HIGHEST, -40), n);
            due("more than 40, all of " + n, full(n).more(0, 0, 40), 0);
            due("more than 40, all signed", full(n).more(0, HIGHEST, 40), 0);
            due("just -40", full(n).just(0, 0, -40), 0);
            due("just 40", full(n).just(0, 0, 40), 0);
        }
        badNumbers("more than", (x, h) -> x.more(0, 0, h), -41, 41, LOWEST, HIGHEST);
        badNumbers("just", (x, h) -> x.just(0, 0, h), -41, 41, LOWEST, HIGHEST);
    }

    private static void aboveIsNotAt() {
        for (int n = 2; n <= 10; n++) {
            SpreadNets x = full(n);
            int top = 2 * n - 2;
            due("above the greatest, all of " + n, x.more(0, 0, top), 0);
            due("above a half less, all of " + n, x.more(0, 0, top - 1), 1);
            due("just a half more, all of " + n, x.just(0, 0, top + 1), 0);
            due("just a half less, all of " + n, x.just(0, 0, top - 1), 0);
            due("above -1, all of " + n, x.more(0, 0, -2), 1);
            due("above -3 halves, all of " + n, x.more(0, 0, -3), n);
        }
        // A path of three: the root of 2, 0 and less the root of 2; 3 halves are more, 2 halves are less.
        due("above 3 halves", path(3).more(0, 0, 3), 0);
        due("above 2 halves", path(3).more(0, 0, 2), 1);
        due("above 0", path(3).more(0, 0, 0), 1);
        due("above -1 half", path(3).more(0, 0, -1), 2);
        due("above -2 halves", path(3).more(0, 0, -2), 2);
        due("above -3 halves", path(3).more(0, 0, -3), 3);
    }

    private static void secondFromMinusTwenty() {
        for (int net = 0; net < 4; net++) due("one knot", new SpreadNets().second(net), -20);
        due("two knots without a line", with(2).second(0), 0);
        due("two knots and a line", with(2, "01").second(0), -2);
        for (int n = 2; n <= 10; n++) due("all of " + n, full(n).second(0), -2);
    }

    private static void secondLeavesOne() {
        // Two parts of five, all joined: 4 twice, and no second is more.
        SpreadNets x = full(5);
        x.net(1, 2);
        x.product(1, 0, 2);
        due("4 twice", x.second(2), 8);
        due("two lines apart: 1 twice", with(4, "01", "23").second(0), 2);
        due("a line and a knot: 1 once, then 0", with(3, "01").second(0), 0);
        // The second of a ring of five is 0.618, of a path of four the same, of a ring of eight 1.414.
        due("between halves", ringOf(5).second(0), 2);
        due("between halves, a path", path(4).second(0), 2);
        due("between halves, a ring of eight", ringOf(8).second(0), 3);
        due("just at 1: a ring of six", ringOf(6).second(0), 2);
    }

    private static void spanFromZero() {
        for (int n = 1; n <= 10; n++) due("no lines, " + n, with(n).span(0, 0), 0);
        due("no lines, all signs", with(10).span(0, HIGHEST), 0);
        due("one line", with(2, "01").span(0, 0), 2);
        due("one line, signed", with(2, "01").span(0, 1), 2);
        for (int n = 2; n <= 10; n++) due("all of " + n, full(n).span(0, 0), 2 * n - 2);
    }

    private static void spanOfBothSides() {
        // All of n signed: -(n - 1) once and 1; 8 is the most that have all lines in the 31 bits.
        for (int n = 2; n <= 8; n++) {
            due("all of " + n + " signed", full(n).span(0, (1 << linesOfFull(n)) - 1), 2 * n - 2);
        }
        due("a ring of four: 2 and -2 just", ringOf(4).span(0, 0), 4);
        due("a ring of four, one signed: 1.414", ringOf(4).span(0, 8), 3);
        due("a ring of three, one signed: -2", ringOf(3).span(0, 1), 4);
        due("a ring of three, two signed: 2", ringOf(3).span(0, 3), 4);
        due("all of four, one signed: 2.236", full(4).span(0, 1), 5);
    }

    private static void bestOfNineLines() {
        due("no lines", new SpreadNets().best(0), 0);
        due("one line", with(2, "01").best(0), 0);
        due("nine lines, a ring", ringOf(9).best(0), 0);
        due("nine lines, a path", path(10).best(0), 0);
        due("nine lines", nineLines().best(0), 1 | 16);
        refused("ten lines, a ring", NO, () -> ringOf(10), x -> x.best(0));
        refused("ten lines, all of five", NO, () -> full(5), x -> x.best(0));
        refused("45 lines", NO, () -> full(10), x -> x.best(0));
        SpreadNets x = nineLines();
        x.line(0, 7, 8, true);
        due("a tenth came", x.best(0), NO);
        x.line(0, 7, 8, false);
        due("and went", x.best(0), 1 | 16);
    }

    /** Two rings of four, lines 01 03 12 23 and 45 47 56 67, and the line 89. */
    private static SpreadNets nineLines() {
        return with(10, "01", "12", "23", "30", "45", "56", "67", "74", "89");
    }

    private static void leastOfLikeSignings() {
        due("a tree: all are like", path(4).best(0), 0);
        due("a ring of five: all are like", ringOf(5).best(0), 0);
        due("a ring of four: an odd number of signs is less", ringOf(4).best(0), 1);
        due("a ring of six: 2 just and 1.732 are both within 4 halves", ringOf(6).best(0), 0);
        // The line 01 is in no ring: line 1 is the first that counts.
        due("a ring of four behind a line", with(5, "01", "12", "23", "34", "41").best(0), 2);
    }

    // ---- Terms: walks, ways, bits

    private static void zeroToTwelveSteps() {
        for (int n = 1; n <= 10; n++) {
            due("no steps, staying, all of " + n, full(n).walks(0, n - 1, n - 1, 0), 1);
            if (n > 1) due("no steps, elsewhere, all of " + n, full(n).walks(0, 0, n - 1, 0), 0);
            // All of n: ((n - 1)^12 + n - 1) / n ways back, ((n - 1)^12 - 1) / n to another.
            long all = power(n - 1, 12);
            due("twelve steps back, all of " + n, full(n).walks(0, 0, 0, 12), (all + n - 1) / n);
            if (n > 1) due("twelve steps on, all of " + n, full(n).walks(0, 0, 1, 12), (all - 1) / n);
        }
        due("no lines, a step", with(10).walks(0, 0, 0, 1), 0);
        badNumbers("walks of", (x, t) -> x.walks(2, 0, 0, t), -1, 13, LOWEST, HIGHEST);
        badNumbers("uneven of", (x, t) -> x.uneven(2, 0, t), -1, 13, LOWEST, HIGHEST);
    }

    private static long power(long base, int times) {
        return BigInteger.valueOf(base).pow(times).longValueExact();
    }

    private static void unevenOfEvenDegreed() {
        due("one knot", new SpreadNets().uneven(0, 0, 12), 0);
        refused("two lines of three", NO, () -> path(3), x -> x.uneven(0, 0, 1));
        refused("two lines of three, no steps", NO, () -> path(3), x -> x.uneven(0, 0, 0));
        refused("only the last knot is unlike", NO, () -> with(9, "01", "23", "45", "67"), x -> x.uneven(0, 0, 12));
        refused("only the first knot is unlike", NO, () -> with(9, "12", "34", "56", "78"), x -> x.uneven(0, 8, 12));
        SpreadNets x = path(3);
        x.line(0, 0, 2, true);
        due("the third line comes", x.uneven(0, 0, 1), 4);
    }

    private static void unevenPowers() {
        for (int n = 1; n <= 10; n++) {
            due("no lines, no steps, " + n, with(n).uneven(0, 0, 0), 2 * n - 2);
            due("no lines, a step, " + n, with(n).uneven(0, 0, 1), 0);
            due("no lines, twelve steps, " + n, with(n).uneven(0, 0, 12), 0);
            due("all of " + n + ", no steps", full(n).uneven(0, 0, 0), 2 * n - 2);
            due("all of " + n + ", twelve steps", full(n).uneven(0, n - 1, 12), 2 * n - 2);
        }
        // Each of five joined to each of five others: all walks end on one side, ten times 5^t off.
        SpreadNets x = new SpreadNets();
        x.ring(0, 10, 1 | 4 | 16);
        due("beyond an int", x.uneven(0, 0, 12), 2441406250L);
        due("eleven steps", x.uneven(0, 9, 11), 488281250L);
    }

    private static void setsOfKnots() {
        for (int n = 1; n <= 10; n++) {
            int knots = n;
            int every = (1 << n) - 1;
            due("none to none of " + n, full(n).apart(0, 0, 0), 0);
            due("none to all of " + n, full(n).apart(0, 0, every), 0);
            due("all to none of " + n, full(n).apart(0, every, 0), 0);
            due("all to all of " + n, full(n).apart(0, every, every), n);
            due("all to all of " + n + ", no lines", with(n).apart(0, every, every), n);
            due("the last to the first of " + n, full(n).apart(0, 1 << n - 1, 1), 1);
            for (int set : new int[] {1 << n, 1 << n | 1, 1 << 30, -1, LOWEST, HIGHEST}) {
                refused("from " + set + " of " + n, BAD, () -> full(knots), x -> x.apart(0, set, 1));
                refused("to " + set + " of " + n, BAD, () -> full(knots), x -> x.apart(0, 1, set));
                refused("from none to " + set + " of " + n, BAD, () -> full(knots), x -> x.apart(0, 0, set));
            }
        }
    }

    private static void waysShareNoKnot() {
        due("a knot to all others: its own knot is shared", full(10).apart(0, 1, 1022), 1);
        due("all others to a knot", full(10).apart(0, 1022, 1), 1);
        due("five to five", full(10).apart(0, 31, 992), 5);
        due("six to four", full(10).apart(0, 63, 960), 4);
        due("all through the middle of a star", with(7, "01", "02", "03", "04", "05", "06").apart(0, 14, 112), 1);
        due("a path from end to end", path(10).apart(0, 1, 512), 1);
        due("no way between two parts", with(4, "01", "23").apart(0, 3, 12), 0);
        due("a ring of ten, two to two", ringOf(10).apart(0, 1 | 2, 32 | 64), 2);
        due("a ring of ten, three in a row to three", ringOf(10).apart(0, 7, 32 | 64 | 128), 2);
        // The way 0 2 5 bars 1 2 4; 0 3 5 does not.
        due("a way that gives way", with(6, "02", "03", "12", "25", "24", "35").apart(0, 3, 48), 2);
    }

    private static void knotOfBoth() {
        due("one knot without lines", new SpreadNets().apart(0, 1, 1), 1);
        due("the last of ten without lines", with(10).apart(0, 512, 512), 1);
        due("two of three in both, no lines", with(10).apart(0, 7, 14), 2);
        SpreadNets star = with(7, "01", "02", "03", "04", "05", "06");
        due("a leaf of both beside a way through the middle", star.apart(0, 14, 120), 2);
        due("the middle of both bars all other ways", star.apart(0, 15, 113), 1);
        due("a middle knot of a path", path(3).apart(0, 3, 6), 1);
    }

    private static void distances() {
        for (int n = 1; n <= 10; n++) {
            due("a path of " + n + " from end to end", path(n).distance(0, 0, n - 1), n - 1);
            due("and back", path(n).distance(0, n - 1, 0), n - 1);
            due("no line is needed", with(n).distance(0, n - 1, n - 1), 0);
            if (n > 1) due("no way without lines", with(n).distance(0, 0, n - 1), NONE);
            if (n > 1) due("all of " + n, full(n).distance(0, n - 1, 0), 1);
        }
        due("a ring of ten, half way", ringOf(10).distance(0, 0, 5), 5);
        due("a ring of ten, the other way around", ringOf(10).distance(0, 1, 9), 2);
    }

    private static void rounds() {
        for (int n = 3; n <= 10; n++) {
            due("a ring of " + n, ringOf(n).round(0), n);
            due("all of " + n, full(n).round(0), 3);
            due("a path of " + n, path(n).round(0), NONE);
            SpreadNets x = ringOf(n);
            x.line(0, 0, n - 1, false);
            due("a ring of " + n + " less a line", x.round(0), NONE);
        }
        due("one knot", new SpreadNets().round(0), NONE);
        due("two knots and a line", with(2, "01").round(0), NONE);
        due("a ring of two", ringOf(2).round(0), NONE);
        due("a star", with(10, "01", "02", "03", "04", "05", "06", "07", "08", "09").round(0), NONE);
        due("the last three knots", with(10, "78", "89", "79").round(0), 3);
        due("a way around the last line", with(10, "67", "78", "89", "69").round(0), 4);
        due("four, then five", with(9, "01", "12", "23", "30", "45", "56", "67", "78", "84").round(0), 4);
        due("five, then four", with(9, "01", "12", "23", "34", "40", "56", "67", "78", "85").round(0), 4);
        due("two rounds that share a knot: the lesser one", with(6, "01", "12", "20", "23", "34", "45", "52").round(0), 3);
    }

    private static void wordsOfFullNets() {
        for (int n = 1; n <= 10; n++) {
            int knots = n;
            int lines = linesOfFull(n);
            long last = (1L << lines) - 1;
            due("no bit, all of " + n, full(n).odd(0, 0), 0);
            due("all bits, all of " + n, full(n).odd(0, last), n % 2 == 0 ? n : 0);
            due("no bit, flipped", full(n).flipped(0, 0), 0);
            due("all bits, flipped, all of " + n, full(n).flipped(0, last), n % 2 == 0 ? last ^ pairsOfFull(n) : last);
            for (int bit = 0; bit < lines; bit++) {
                due("bit " + bit + " alone, all of " + n, full(n).odd(0, 1L << bit), 2);
                due("bit " + bit + " alone, flipped, all of " + n, full(n).flipped(0, 1L << bit), 0);
            }
            for (int bit = lines; bit < 64; bit++) {
                long beyond = 1L << bit;
                refused("bit " + bit + " of " + n, BAD, () -> full(knots), x -> x.odd(0, beyond));
                refused("bit " + bit + " of " + n + ", flipped", BAD, () -> full(knots), x -> x.flipped(0, beyond));
            }
            due("all 64 bits, all of " + n, full(n).odd(0, -1), BAD);
            due("all 64 bits, flipped, all of " + n, full(n).flipped(0, -1), BAD);
        }
    }

    /** The lines 01, 23, 45 .. of a net that has all lines. */
    private static long pairsOfFull(int n) {
        long pairs = 0;
        for (int a = 0; a + 1 < n; a += 2) pairs |= 1L << numberInFull(n, a, a + 1);
        return pairs;
    }

    private static void oddKnots() {
        SpreadNets star = with(10, "01", "02", "03", "04", "05", "06", "07", "08", "09");
        due("none", star.odd(0, 0), 0);
        due("one of nine", star.odd(0, 256), 2);
        due("two of nine: the middle is even", star.odd(0, 257), 2);
        due("eight of nine: the middle is even", star.odd(0, 255), 8);
        due("nine of nine: all", star.odd(0, 511), 10);
        due("a ring of ten, all: none", ringOf(10).odd(0, 1023), 0);
        due("one knot", new SpreadNets().odd(0, 0), 0);
    }

    private static void flippedUntilNone() {
        due("none odd, no line", new SpreadNets().flipped(0, 0), 0);
        due("none odd, all bits", ringOf(10).flipped(0, 1023), 1023);
        due("a line alone goes", with(2, "01").flipped(0, 1), 0);
        // Lines 01 and 12: both ends of the path are odd, and no line joins them.
        due("two odd, no line of both", path(3).flipped(0, 3), 3);
        // A ring of three: the line of both comes, and all are even.
        due("two odd, the line of both comes", ringOf(3).flipped(0, 3), 7);
        // A star, all bits: line 0 goes, with it the middle is even, and eight stay odd.
        due("one change is all", with(10, "01", "02", "03", "04", "05", "06", "07", "08", "09").flipped(0, 511), 510);
    }

    private static void flippedFirstFirst() {
        // A ring of four, lines 01 03 12 23, all odd: 01 and 23 change, not 03 and 12.
        due("01 and 23 go", ringOf(4).flipped(0, 1 | 8), 0);
        due("01 and 23 come", ringOf(4).flipped(0, 2 | 4), 15);
        // A path of four, lines 01 12 23, all odd by 01 and 23.
        due("a path of four", path(4).flipped(0, 5), 0);
        // All of four, all odd: 01 and 23, lines 0 and 5.
        due("all of four", full(4).flipped(0, 63), 63 & ~(1 | 32));
    }

    private static void flippedFewTimes() {
        due("all of ten, all odd: five changes", full(10).flipped(0, (1L << 45) - 1), 17041356357630L);
        due("five changes of bits", Long.bitCount(full(10).flipped(0, (1L << 45) - 1)), 40);
        for (int n = 1; n <= 10; n++) {
            long once = full(n).flipped(0, (1L << linesOfFull(n)) - 1);
            due("nothing is left to change, all of " + n, full(n).flipped(0, once), once);
            due("no knot is odd then, all of " + n, full(n).odd(0, once), 0);
        }
    }

    // ---- Terms: refusal

    private static void badBeforeNo() {
        bad("line: the knot beyond, and no line to go", x -> x.line(1, 0, 3, false));
        bad("line: like knots, and no line to go", x -> x.line(1, 0, 0, false));
        bad("line: no such net", x -> x.line(4, 0, 2, false));
        refused("line: no line to go", NO, BoundariesTest::furnished, x -> x.line(1, 0, 2, false));
        bad("product: above 10, to no net", x -> x.product(0, 0, 4));
        bad("product: above 10 is the first, no second", x -> x.product(0, -1, 0));
        bad("product: above 10 is the second, no first", x -> x.product(4, 0, 0));
        refused("product: above 10", NO, BoundariesTest::furnished, x -> x.product(0, 0, 0));
        bad("uneven: not even, the knot beyond", x -> x.uneven(1, 3, 1));
        bad("uneven: not even, the knot below", x -> x.uneven(1, -1, 1));
        bad("uneven: not even, the steps beyond", x -> x.uneven(1, 0, 13));
        bad("uneven: not even, the steps below", x -> x.uneven(1, 0, -1));
        refused("uneven: not even", NO, BoundariesTest::furnished, x -> x.uneven(1, 0, 1));
        bad("best: no such net", x -> x.best(4));
        refused("best: above 9 lines", NO, BoundariesTest::furnished, x -> x.best(0));
    }

    private static void badBeforeNone() {
        bad("growth of one knot, what beyond", x -> x.growth(3, false, 3));
        bad("growth of one knot, what below", x -> x.growth(3, true, -1));
        bad("number, the knot beyond", x -> x.number(1, 0, 3));
        bad("number, like knots", x -> x.number(1, 2, 2));
        bad("distance, the knot beyond", x -> x.distance(3, 0, 1));
        bad("round, no such net", x -> x.round(4));
        bad("about, what beyond, not even", x -> x.about(1, 4));
    }

    private static void refusedChangesNothing() {
        int[] odd = {LOWEST, -1, 4, 11, 41, HIGHEST};
        for (int number : odd) {
            bad("net", x -> x.net(number, 3));
            bad("line", x -> x.line(number, 0, 1, false));
            bad("ring", x -> x.ring(number, 3, 1));
            bad("product, first", x -> x.product(number, 1, 0));
            bad("product, second", x -> x.product(1, number, 0));
            bad("product, to", x -> x.product(1, 1, number));
            bad("turned, from", x -> x.turned(number, 0));
            bad("turned, to", x -> x.turned(0, number));
        }
        bad("ring of more steps, after all else is right", x -> x.ring(0, 9, 16));
        bad("net of more knots", x -> x.net(0, 11));
        refused("a line that is there", NO, BoundariesTest::furnished, x -> x.line(0, 0, 1, true));
        refused("a line that is not there", NO, BoundariesTest::furnished, x -> x.line(0, 0, 2, false));
        refused("a product above 10, to another net", NO, BoundariesTest::furnished, x -> x.product(1, 2, 3));
        refused("best of too many", NO, BoundariesTest::furnished, x -> x.best(0));
        refused("uneven of unlike degrees", NO, BoundariesTest::furnished, x -> x.uneven(1, 0, 1));
    }

    // ---- Promises 1 to 9

    private static void objectsAreApart() {
        SpreadNets x = furnished();
        SpreadNets y = new SpreadNets();
        oneKnotAtFirst();
        due("new beside another", y.digest(), new SpreadNets().digest());
        String before = all(x);
        y.ring(0, 10, 31);
        same("the other one after a change", all(x), before);
    }

    private static void netWithoutLines() {
        for (int net = 0; net < 4; net++) {
            SpreadNets x = likePaths();
            due("net " + net, x.net(net, 3), 1);
            for (int other = 0; other < 4; other++) due("lines of net " + other, x.about(other, 1), other == net ? 0 : 2);
        }
        for (int n = 1; n <= 10; n++) {
            SpreadNets x = full(10);
            due("ten joined knots become " + n, x.net(0, n), 1);
            due("lines of them", x.about(0, 1), 0);
            due("ten again", x.net(0, 10), 1);
            for (int k = 0; k < 10; k++) due("near " + k, x.near(0, k), 0);
        }
        bad("no knots", x -> x.net(3, 0));
        bad("eleven", x -> x.net(3, 11));
    }

    private static void lineComesOrGoes() {
        SpreadNets x = with(10);
        for (int a = 0; a < 10; a++) {
            for (int b = 0; b < a; b++) {
                due("goes, is not there", x.line(0, a, b, false), NO);
                due("comes", x.line(0, a, b, true), 1);
                due("comes, is there", x.line(0, b, a, true), NO);
            }
        }
        due("all lines are there", x.about(0, 1), 45);
        for (int a = 0; a < 10; a++) {
            for (int b = 0; b < a; b++) {
                due("goes", x.line(0, b, a, false), 1);
                due("goes, is gone", x.line(0, a, b, false), NO);
            }
        }
        due("no line is left", x.about(0, 1), 0);
        SpreadNets y = likePaths();
        y.line(2, 0, 1, false);
        for (int net = 0; net < 4; net++) due("lines of net " + net, y.about(net, 1), net == 2 ? 1 : 2);
        bad("to its own knot", z -> z.line(0, 9, 9, true));
        bad("beyond", z -> z.line(0, 0, 10, true));
        bad("below", z -> z.line(0, -1, 0, true));
    }

    private static void ringRefused() {
        for (int net = 0; net < 4; net++) {
            SpreadNets x = likePaths();
            due("ring of ten in net " + net, x.ring(net, 10, 31), 45);
            for (int other = 0; other < 4; other++) due("lines of net " + other, x.about(other, 1), other == net ? 45 : 2);
        }
        SpreadNets x = full(10);
        due("nothing is left of former lines", x.ring(0, 9, 1), 9);
        due("nothing is left of former knots", x.near(0, 9), BAD);
        bad("one knot has no step", y -> y.ring(0, 1, 1));
        bad("two knots have one step", y -> y.ring(0, 2, 2));
        bad("three knots have one step", y -> y.ring(0, 3, 2));
        bad("nine knots have four steps", y -> y.ring(0, 9, 16));
        bad("ten knots have five steps", y -> y.ring(0, 10, 32));
    }

    private static void productOfItself() {
        SpreadNets x = likePaths();
        due("three by three, into itself", x.product(0, 0, 0), 9);
        due("lines", x.about(0, 1), 12);
        due("near the middle", x.near(0, 4), 1 << 1 | 1 << 3 | 1 << 5 | 1 << 7);
        due("the first one is the goal", x.net(1, 1) + x.product(2, 1, 2), 4);
        due("as it was", x.near(2, 1), 5);
        due("the second one is the goal", x.product(1, 3, 3), 3);
        due("as it was too", x.near(3, 1), 5);
        x = new SpreadNets();
        x.ring(0, 2, 1);
        x.ring(1, 5, 2);
        due("two by five into the first", x.product(0, 1, 0), 10);
        due("near the last", x.near(0, 9), 1 << 6 | 1 << 7 | 1 << 4);
        x.ring(0, 2, 1);
        due("two by five into the second", x.product(0, 1, 1), 10);
        due("near the last of it", x.near(1, 9), 1 << 6 | 1 << 7 | 1 << 4);
        refused("four by three", NO, BoundariesTest::furnished, y -> y.product(2, 1, 2));
        refused("three by four", NO, BoundariesTest::furnished, y -> y.product(1, 2, 1));
        bad("to no net", y -> y.product(3, 3, 4));
    }

    private static void turnedEmptyAndFull() {
        for (int n = 1; n <= 10; n++) {
            SpreadNets x = with(n);
            due("none of " + n + " into another", x.turned(0, 1), linesOfFull(n));
            due("the first stays", x.about(0, 1), 0);
            due("all of " + n + " into itself", x.turned(1, 1), 0);
            due("none of " + n + " into itself", x.turned(1, 1), linesOfFull(n));
            due("knots", x.about(1, 0), n);
            due("no knot is beside itself", x.near(1, n - 1), (1 << n - 1) - 1);
            due("into a greater net", x.net(2, 10) + x.turned(1, 2), 1);
            due("knots of it", x.about(2, 0), n);
        }
        bad("from no net", x -> x.turned(4, 0));
        bad("to no net", x -> x.turned(0, 4));
    }

    private static void aboutZeroToThree() {
        for (int n = 1; n <= 10; n++) {
            SpreadNets none = with(n);
            SpreadNets every = full(n);
            due("knots, no lines", none.about(0, 0), n);
            due("knots, all lines", every.about(0, 0), n);
            due("lines, no lines", none.about(0, 1), 0);
            due("lines, all lines", every.about(0, 1), linesOfFull(n));
            due("d, no lines", none.about(0, 2), 0);
            due("d, all lines", every.about(0, 2), n - 1);
            due("parts, no lines", none.about(0, 3), n);
            due("parts, all lines", every.about(0, 3), 1);
            due("parts of a path of " + n, path(n).about(0, 3), 1);
        }
        due("d of a path", path(3).about(0, 2), NONE);
        SpreadNets winding = with(10, "09", "98", "81", "17", "76", "62", "25", "53", "34");
        due("a way through all knots in no order is one part", winding.about(0, 3), 1);
        winding.line(0, 7, 6, false);
        due("two parts, once a line is gone", winding.about(0, 3), 2);
        for (int what = 0; what <= 3; what++) {
            int asked = what;
            asked("asked only", what == 0 ? 4 : what == 3 ? 1 : what == 1 ? 4 : 2, BoundariesTest::furnished, x -> x.about(2, asked));
        }
        badNumbers("what", (x, what) -> x.about(0, what), -1, 4, LOWEST, HIGHEST);
    }

    private static void nearNoneAndAll() {
        for (int k = 0; k < 10; k++) {
            due("none, near " + k, with(10).near(0, k), 0);
            due("all, near " + k, full(10).near(0, k), 1023 & ~(1 << k));
        }
        asked("asked only", 5, BoundariesTest::furnished, x -> x.near(1, 1));
        badNumbers("near", (x, knot) -> x.near(0, knot), -1, 10, LOWEST, HIGHEST);
        badNumbers("near, a net of three", (x, knot) -> x.near(1, knot), -1, 3);
        badNumbers("near, a net of one", (x, knot) -> x.near(3, knot), -1, 1);
    }

    private static void numberNone() {
        for (int a = 0; a < 10; a++) {
            for (int b = 0; b < 10; b++) {
                due("no lines, " + a + ", " + b, with(10).number(0, a, b), a == b ? BAD : NONE);
            }
        }
        asked("the line that is not there", NONE, BoundariesTest::furnished, x -> x.number(1, 0, 2));
        asked("the first", 0, BoundariesTest::furnished, x -> x.number(1, 1, 0));
        asked("the last", 1, BoundariesTest::furnished, x -> x.number(1, 2, 1));
        badNumbers("from", (x, knot) -> x.number(1, knot, 1), -1, 3, LOWEST, HIGHEST);
        badNumbers("to", (x, knot) -> x.number(1, 1, knot), -1, 3, LOWEST, HIGHEST);
        bad("one knot", x -> x.number(3, 0, 0));
    }

    // ---- Promises 10 to 15

    private static void growthZeroToTwo() {
        asked("above", 5, () -> full(10), x -> x.growth(0, false, 0));
        asked("below, not 1 by 1", 5, () -> full(10), x -> x.growth(0, false, 1));
        asked("set", 31, () -> full(10), x -> x.growth(0, false, 2));
        asked("lines above", 25, () -> full(10), x -> x.growth(0, true, 0));
        asked("lines below", 5, () -> full(10), x -> x.growth(0, true, 1));
        asked("lines, set", 31, () -> full(10), x -> x.growth(0, true, 2));
        due("a ring of four: 2 by 2", ringOf(4).growth(0, true, 1), 2);
        badNumbers("what", (x, what) -> x.growth(0, false, what), -1, 3, LOWEST, HIGHEST);
        badNumbers("what, lines", (x, what) -> x.growth(0, true, what), -1, 3, LOWEST, HIGHEST);
    }

    private static void moreSigned() {
        asked("not signed", 6, BoundariesTest::furnished, x -> x.more(0, 0, 1));
        asked("all signed", 4, BoundariesTest::furnished, x -> x.more(0, 32767, 3));
        asked("all signed, bits beyond", 4, BoundariesTest::furnished, x -> x.more(0, HIGHEST, 3));
        due("a ring of three", ringOf(3).more(0, 0, 0), 1);
        due("a ring of three, signed", ringOf(3).more(0, 4, 0), 2);
        badNumbers("x", (x, h) -> x.more(3, 0, h), -41, 41);
        badNumbers("signs", (x, signs) -> x.more(3, signs, 0), -1, LOWEST);
    }

    private static void justSigned() {
        asked("not signed", 5, BoundariesTest::furnished, x -> x.just(0, 0, 2));
        asked("all signed", 5, BoundariesTest::furnished, x -> x.just(0, 32767, -2));
        asked("all signed, bits beyond", 5, BoundariesTest::furnished, x -> x.just(0, HIGHEST, -2));
        due("a ring of three", ringOf(3).just(0, 0, 4), 1);
        due("a ring of three, signed", ringOf(3).just(0, 4, 4), 0);
        due("a ring of three, signed, -2", ringOf(3).just(0, 4, -4), 1);
        badNumbers("x", (x, h) -> x.just(3, 0, h), -41, 41);
        badNumbers("signs", (x, signs) -> x.just(3, signs, 0), -1, LOWEST);
    }

    private static void secondRefused() {
        asked("asked only", 2, BoundariesTest::furnished, x -> x.second(0));
        badNumbers("net", (x, net) -> x.second(net), -1, 4, LOWEST, HIGHEST);
    }

    private static void spanRefused() {
        asked("asked only", 6, BoundariesTest::furnished, x -> x.span(0, 0));
        asked("all signed", 6, BoundariesTest::furnished, x -> x.span(0, HIGHEST));
        badNumbers("net", (x, net) -> x.span(net, 0), -1, 4, LOWEST, HIGHEST);
        badNumbers("signs", (x, signs) -> x.span(3, signs), -1, LOWEST);
    }

    private static void bestRefused() {
        asked("asked only", 1, BoundariesTest::furnished, x -> x.best(2));
        asked("nine lines", 1 | 16, BoundariesTest::nineLines, x -> x.best(0));
        refused("ten lines", NO, () -> ringOf(10), x -> x.best(0));
        badNumbers("net", (x, net) -> x.best(net), -1, 4, LOWEST, HIGHEST);
    }

    // ---- Promises 16 to 20

    private static void walksRefused() {
        asked("no steps", 1, BoundariesTest::furnished, x -> x.walks(0, 9, 9, 0));
        asked("twelve steps", 2048, BoundariesTest::furnished, x -> x.walks(2, 0, 0, 12));
        asked("twelve steps, beyond an int", 28242953649L, () -> full(10), x -> x.walks(0, 9, 9, 12));
        badNumbers("a", (x, a) -> x.walks(1, a, 0, 1), -1, 3, LOWEST, HIGHEST);
        badNumbers("b", (x, b) -> x.walks(1, 0, b, 1), -1, 3, LOWEST, HIGHEST);
        badNumbers("t", (x, t) -> x.walks(1, 0, 0, t), -1, 13, LOWEST, HIGHEST);
    }

    private static void unevenRefused() {
        asked("no steps", 6, BoundariesTest::furnished, x -> x.uneven(2, 3, 0));
        asked("one step", 8, BoundariesTest::furnished, x -> x.uneven(2, 0, 1));
        asked("twelve steps", 4 * 4096, BoundariesTest::furnished, x -> x.uneven(2, 0, 12));
        refused("not even", NO, BoundariesTest::furnished, x -> x.uneven(1, 0, 0));
        badNumbers("a", (x, a) -> x.uneven(2, a, 1), -1, 4, LOWEST, HIGHEST);
        badNumbers("t", (x, t) -> x.uneven(2, 0, t), -1, 13, LOWEST, HIGHEST);
    }

    private static void apartRefused() {
        asked("none", 0, BoundariesTest::furnished, x -> x.apart(0, 0, 0));
        asked("all", 10, BoundariesTest::furnished, x -> x.apart(0, 1023, 1023));
        asked("halves", 5, BoundariesTest::furnished, x -> x.apart(0, 31, 992));
        badNumbers("from", (x, set) -> x.apart(0, set, 1), -1, 1024, 1025, LOWEST, HIGHEST);
        badNumbers("to", (x, set) -> x.apart(0, 1, set), -1, 1024, 1025, LOWEST, HIGHEST);
        badNumbers("from, a net of three", (x, set) -> x.apart(1, set, 1), 8, 9);
        badNumbers("to, a net of one", (x, set) -> x.apart(3, 1, set), 2, 3);
    }

    private static void distanceNone() {
        asked("no way", NONE, () -> with(10, "01", "23"), x -> x.distance(0, 1, 2));
        asked("no way to the last", NONE, () -> with(10, "01", "12", "23"), x -> x.distance(0, 0, 9));
        asked("the longest way", 9, () -> path(10), x -> x.distance(0, 0, 9));
        asked("no line", 0, BoundariesTest::furnished, x -> x.distance(3, 0, 0));
        badNumbers("a", (x, a) -> x.distance(1, a, 0), -1, 3, LOWEST, HIGHEST);
        badNumbers("b", (x, b) -> x.distance(1, 0, b), -1, 3, LOWEST, HIGHEST);
    }

    private static void roundNone() {
        asked("none", NONE, BoundariesTest::furnished, x -> x.round(1));
        asked("one knot", NONE, BoundariesTest::furnished, x -> x.round(3));
        asked("five", 5, BoundariesTest::furnished, x -> x.round(0));
        asked("the longest", 10, () -> ringOf(10), x -> x.round(0));
        badNumbers("net", (x, net) -> x.round(net), -1, 4, LOWEST, HIGHEST);
    }

    // ---- Promises 21 to 23

    private static void oddRefused() {
        asked("no bit", 0, BoundariesTest::furnished, x -> x.odd(0, 0));
        asked("all bits", 10, BoundariesTest::furnished, x -> x.odd(0, 32767));
        asked("no lines", 0, BoundariesTest::furnished, x -> x.odd(3, 0));
        badWords((x, word) -> x.odd(0, word), 1L << 15, 1L << 15 | 1, 1L << 31, 1L << 32, 1L << 47, 1L << 62);
        badWords((x, word) -> x.odd(0, word), -1, -2, Long.MIN_VALUE, Long.MAX_VALUE);
        badWords((x, word) -> x.odd(3, word), 1, -1, 1L << 32, Long.MIN_VALUE);
        badNumbers("net", (x, net) -> x.odd(net, 0), -1, 4, LOWEST, HIGHEST);
        lineGoesFromUnderItsBit((x, word) -> x.odd(2, word), 4);
    }

    private static void flippedRefused() {
        asked("no bit", 0, BoundariesTest::furnished, x -> x.flipped(0, 0));
        asked("a bit", 0, BoundariesTest::furnished, x -> x.flipped(0, 1 << 14));
        asked("no lines", 0, BoundariesTest::furnished, x -> x.flipped(3, 0));
        badWords((x, word) -> x.flipped(0, word), 1L << 15, 1L << 15 | 1, 1L << 31, 1L << 32, 1L << 47, 1L << 62);
        badWords((x, word) -> x.flipped(0, word), -1, -2, Long.MIN_VALUE, Long.MAX_VALUE);
        badWords((x, word) -> x.flipped(3, word), 1, -1, 1L << 32, Long.MIN_VALUE);
        badNumbers("net", (x, net) -> x.flipped(net, 0), -1, 4, LOWEST, HIGHEST);
        lineGoesFromUnderItsBit((x, word) -> x.flipped(2, word), 0);
    }

    private static void badWords(WordCall call, long... wordsBeyond) {
        for (long word : wordsBeyond) bad("word " + word, x -> call.on(x, word));
    }

    /** The ring of four in net 2 takes the word 9 (lines 01 and 23), but not once it has three lines. */
    private static void lineGoesFromUnderItsBit(WordCall call, long answer) {
        SpreadNets x = furnished();
        due("the last line's bit", call.on(x, 9), answer);
        x.line(2, 0, 1, false);
        due("the last line's bit, a line is gone", call.on(x, 9), BAD);
        x.line(2, 0, 1, true);
        due("the last line's bit, it is there again", call.on(x, 9), answer);
    }

    private static void digestWrapsAround() {
        asked("new", 241L * power(31, 8) + power(31, 7) + power(31, 5) + power(31, 3) + 31, SpreadNets::new, x -> x.digest());
        SpreadNets x = new SpreadNets();
        for (int net = 0; net < 4; net++) x.ring(net, 10 - net, 1);
        due("far beyond a long", x.digest(), digestOf(x));
        due("asked again", x.digest(), digestOf(x));
        for (int net = 0; net < 4; net++) x.ring(net, 10, 31);
        due("all of ten, four times", x.digest(), digestOf(x));
        for (int net = 0; net < 4; net++) x.net(net, 1);
        due("nothing is left of former knots", x.digest(), new SpreadNets().digest());
    }

    /** The digest in numbers that do not wrap around, of which a long keeps the low 64 bits. */
    private static long digestOf(SpreadNets x) {
        BigInteger h = BigInteger.valueOf(241);
        for (int net = 0; net < 4; net++) {
            int n = x.about(net, 0);
            h = next(h, n);
            for (int k = 0; k < n; k++) h = next(h, x.near(net, k));
        }
        return h.longValue();
    }

    private static BigInteger next(BigInteger h, int v) {
        return h.multiply(BigInteger.valueOf(31)).add(BigInteger.valueOf(v));
    }
}
