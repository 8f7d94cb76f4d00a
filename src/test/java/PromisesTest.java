/** Each promise of the document with answers worked out by hand, its edges, and wrong inputs. */
public final class PromisesTest {
    private static final int NONE = -1, BAD = -2, NO = -3;
    private static final int[] WRONG_NETS = {-1, 4, Integer.MIN_VALUE, Integer.MAX_VALUE};

    private static int wrong = 0;

    public static void main(String[] args) {
        newObject();
        net();
        line();
        ring();
        product();
        turned();
        about();
        near();
        number();
        growth();
        more();
        just();
        second();
        span();
        best();
        walks();
        uneven();
        apart();
        distance();
        round();
        odd();
        flipped();
        digest();
        wrongNets();
        System.out.println(wrong == 0 ? "all promises hold" : wrong + " answers are not as due");
        if (wrong != 0) System.exit(1);
    }

    private static void due(String what, long got, long want) {
        if (got != want) {
            wrong++;
            System.out.println(what + " answered " + got + ", due is " + want);
        }
    }

    /** Net 0 with n knots and the lines told as pairs of digits. */
    private static SpreadNets with(int n, String... lines) {
        SpreadNets x = new SpreadNets();
        x.net(0, n);
        for (String l : lines) x.line(0, l.charAt(0) - '0', l.charAt(1) - '0', true);
        return x;
    }

    private static SpreadNets petersen() {
        return with(10, "01", "12", "23", "34", "40", "05", "16", "27", "38", "49", "57", "79", "96", "68", "85");
    }

    private static SpreadNets whole(int n) {
        SpreadNets x = with(n);
        x.turned(0, 0);
        return x;
    }

    private static SpreadNets ringOf(int n, int steps) {
        SpreadNets x = new SpreadNets();
        x.ring(0, n, steps);
        return x;
    }

    private static void newObject() {
        SpreadNets x = new SpreadNets();
        for (int i = 0; i < 4; i++) {
            due("1 knots of net " + i, x.about(i, 0), 1);
            due("1 lines of net " + i, x.about(i, 1), 0);
        }
        due("1 NONE", SpreadNets.NONE, NONE);
        due("1 BAD", SpreadNets.BAD, BAD);
        due("1 NO", SpreadNets.NO, NO);
    }

    private static void net() {
        SpreadNets x = whole(4);
        due("2 net", x.net(0, 10), 1);
        due("2 knots", x.about(0, 0), 10);
        due("2 lines", x.about(0, 1), 0);
        due("2 least", x.net(1, 1), 1);
        long before = x.digest();
        due("2 no knots", x.net(0, 0), BAD);
        due("2 eleven knots", x.net(0, 11), BAD);
        due("2 far below", x.net(0, Integer.MIN_VALUE), BAD);
        due("2 nothing changed", x.digest(), before);
        x.net(2, 2);
        due("2 other nets stay", x.about(0, 0), 10);
    }

    private static void line() {
        SpreadNets x = with(4);
        due("3 comes", x.line(0, 3, 1, true), 1);
        due("3 near 1", x.near(0, 1), 8);
        due("3 near 3", x.near(0, 3), 2);
        due("3 is there", x.line(0, 1, 3, true), NO);
        due("3 is not there", x.line(0, 0, 1, false), NO);
        due("3 one knot, comes", x.line(0, 2, 2, true), BAD);
        due("3 one knot, goes", x.line(0, 2, 2, false), BAD);
        due("3 beyond", x.line(0, 0, 4, true), BAD);
        due("3 beyond, first", x.line(0, 4, 0, false), BAD);
        due("3 below", x.line(0, -1, 0, true), BAD);
        due("3 as far as the lines", x.about(0, 1), 1);
        due("3 goes", x.line(0, 1, 3, false), 1);
        due("3 none left", x.about(0, 1), 0);
        due("3 gone from 1", x.near(0, 1), 0);
        due("3 gone from 3", x.near(0, 3), 0);
    }

    private static void ring() {
        SpreadNets x = new SpreadNets();
        due("4 ring of 6", x.ring(0, 6, 1), 6);
        due("4 near 0", x.near(0, 0), 2 | 32);
        due("4 steps 2", x.ring(0, 6, 2), 6);
        due("4 near 1", x.near(0, 1), 8 | 32);
        due("4 half way", x.ring(0, 6, 4), 3);
        due("4 all steps", x.ring(0, 6, 7), 15);
        due("4 no steps", x.ring(0, 6, 0), 0);
        due("4 one knot", x.ring(1, 1, 0), 0);
        due("4 two knots", x.ring(1, 2, 1), 1);
        due("4 three knots", x.ring(1, 3, 1), 3);
        due("4 ten knots", x.ring(2, 10, 31), 45);
        long before = x.digest();
        due("4 a step of one knot", x.ring(0, 1, 1), BAD);
        due("4 step beyond, odd", x.ring(0, 7, 8), BAD);
        due("4 step beyond, even", x.ring(0, 6, 8), BAD);
        due("4 step beyond, ten", x.ring(0, 10, 32), BAD);
        due("4 below", x.ring(0, 6, -1), BAD);
        due("4 far below", x.ring(0, 6, Integer.MIN_VALUE), BAD);
        due("4 no knots", x.ring(0, 0, 0), BAD);
        due("4 eleven", x.ring(0, 11, 1), BAD);
        due("4 nothing changed", x.digest(), before);
    }

    private static void product() {
        SpreadNets x = with(2, "01");
        x.net(1, 3);
        x.line(1, 0, 1, true);
        x.line(1, 1, 2, true);
        due("5 two by three", x.product(0, 1, 2), 6);
        due("5 near 0", x.near(2, 0), 2 | 8);
        due("5 near 4", x.near(2, 4), 2 | 8 | 32);
        due("5 lines", x.about(2, 1), 7);
        due("5 three by two", x.product(1, 0, 3), 6);
        due("5 near 0 there", x.near(3, 0), 2 | 4);
        due("5 near 2 there", x.near(3, 2), 1 | 8 | 16);
        due("5 itself", x.product(0, 0, 0), 4);
        due("5 near 0 of it", x.near(0, 0), 2 | 4);
        due("5 near 3 of it", x.near(0, 3), 2 | 4);
        due("5 nine", x.product(1, 1, 1), 9);
        long before = x.digest();
        due("5 above ten", x.product(2, 0, 3), NO);
        due("5 above ten, to nowhere", x.product(2, 0, 4), BAD);
        due("5 nothing changed", x.digest(), before);
        x.net(0, 2);
        x.net(1, 5);
        due("5 ten", x.product(0, 1, 0), 10);
        due("5 no lines", x.about(0, 1), 0);
    }

    private static void turned() {
        SpreadNets x = with(4, "01", "12");
        due("6 turned", x.turned(0, 1), 4);
        due("6 near 3", x.near(1, 3), 7);
        due("6 near 1", x.near(1, 1), 8);
        due("6 source stays", x.about(0, 1), 2);
        due("6 itself", x.turned(1, 1), 2);
        due("6 back again", x.near(1, 1), 1 | 4);
        due("6 all of ten", whole(10).about(0, 1), 45);
        due("6 one knot", x.turned(2, 3), 0);
        due("6 to nowhere", x.turned(0, 4), BAD);
        due("6 from nowhere", x.turned(-1, 0), BAD);
    }

    private static void about() {
        SpreadNets x = with(7, "01", "12", "02", "34");
        due("7 knots", x.about(0, 0), 7);
        due("7 lines", x.about(0, 1), 4);
        due("7 not even", x.about(0, 2), NONE);
        due("7 parts", x.about(0, 3), 4);
        due("7 d", petersen().about(0, 2), 3);
        due("7 one part", petersen().about(0, 3), 1);
        due("7 a long way is one part", with(10, "09", "98", "81", "17", "76", "62", "25", "53", "34").about(0, 3), 1);
        due("7 two rings", ringOf(10, 2).about(0, 3), 2);
        due("7 d of nothing", with(3).about(0, 2), 0);
        due("7 what below", x.about(0, -1), BAD);
        due("7 what beyond", x.about(0, 4), BAD);
    }

    private static void near() {
        SpreadNets x = with(10, "09", "05");
        due("8 near 0", x.near(0, 0), 512 | 32);
        due("8 near 9", x.near(0, 9), 1);
        due("8 near 1", x.near(0, 1), 0);
        due("8 beyond", x.near(0, 10), BAD);
        due("8 below", x.near(0, -1), BAD);
        due("8 beyond a small net", x.near(1, 1), BAD);
    }

    private static void number() {
        SpreadNets x = with(5, "34", "02", "13", "04", "12");
        due("9 0 2", x.number(0, 0, 2), 0);
        due("9 4 0", x.number(0, 4, 0), 1);
        due("9 1 2", x.number(0, 1, 2), 2);
        due("9 3 1", x.number(0, 3, 1), 3);
        due("9 3 4", x.number(0, 3, 4), 4);
        due("9 none", x.number(0, 0, 1), NONE);
        for (int knot = 0; knot < 5; knot++) due("9 like knots", x.number(0, knot, knot), BAD);
        due("9 like knots, one knot in all", x.number(1, 0, 0), BAD);
        due("9 none, two knots beside no line", x.net(1, 2) + x.number(1, 1, 0), 1 + NONE);
        due("9 beyond", x.number(0, 0, 5), BAD);
        due("9 below", x.number(0, -1, 2), BAD);
        due("9 last of all", whole(10).number(0, 9, 8), 44);
    }

    private static void growth() {
        SpreadNets x = with(6, "01", "12", "23", "34", "45");
        due("10 path above", x.growth(0, false, 0), 1);
        due("10 path below", x.growth(0, false, 1), 3);
        due("10 path set", x.growth(0, false, 2), 7);
        due("10 path, lines, above", x.growth(0, true, 0), 1);
        due("10 path, lines, below", x.growth(0, true, 1), 3);
        due("10 path, lines, set", x.growth(0, true, 2), 7);
        // A star: {1, 2} has one knot beside it, and two lines go out.
        SpreadNets star = with(5, "01", "02", "03", "04");
        due("10 star above", star.growth(0, false, 0), 1);
        due("10 star below", star.growth(0, false, 1), 2);
        due("10 star set", star.growth(0, false, 2), 6);
        // Every leaf grows by 1 line; {1} is the least such set.
        due("10 star, lines, above", star.growth(0, true, 0), 1);
        due("10 star, lines, below", star.growth(0, true, 1), 1);
        due("10 star, lines, set", star.growth(0, true, 2), 2);
        // Ring of four: {0} grows by 2 lines to 1, {0, 1} by 2 to 2.
        due("10 ring of 4, lines, below", ringOf(4, 1).growth(0, true, 1), 2);
        // {0, 1} and {0, 1, 2, 3} are like, 0 by 2 and 0 by 4; the lesser number is taken.
        SpreadNets pairs = with(8, "01", "23", "45", "67");
        due("10 pairs above", pairs.growth(0, false, 0), 0);
        due("10 pairs below", pairs.growth(0, false, 1), 2);
        due("10 pairs set", pairs.growth(0, false, 2), 3);
        // A ring of three with a tail: {3, 4} grows by one line to 2, and stands behind sets of three.
        SpreadNets tail = with(5, "01", "02", "12", "23", "34");
        due("10 tail, lines, above", tail.growth(0, true, 0), 1);
        due("10 tail, lines, set", tail.growth(0, true, 2), 24);
        due("10 odd n: at most half", with(3, "01", "12").growth(0, false, 1), 1);
        due("10 whole of 10", whole(10).growth(0, true, 0), 25);
        due("10 whole of 10, set", whole(10).growth(0, true, 2), 31);
        due("10 two knots", with(2, "01").growth(0, false, 0), 1);
        due("10 one knot", x.growth(1, false, 0), NONE);
        due("10 one knot, set", x.growth(1, true, 2), NONE);
        due("10 one knot, what beyond", x.growth(1, true, 3), BAD);
        due("10 what below", x.growth(0, true, -1), BAD);
    }

    private static void more() {
        // Own numbers of the Petersen net: 3 once, 1 five times, -2 four times.
        SpreadNets x = petersen();
        due("11 above 3", x.more(0, 0, 6), 0);
        due("11 above 5 halves", x.more(0, 0, 5), 1);
        due("11 above 1", x.more(0, 0, 2), 1);
        due("11 above a half", x.more(0, 0, 1), 6);
        due("11 above -2", x.more(0, 0, -4), 6);
        due("11 above -5 halves", x.more(0, 0, -5), 10);
        due("11 all signed: 2 four times", x.more(0, 32767, 3), 4);
        due("11 lowest x", x.more(0, 0, -40), 10);
        due("11 highest x", x.more(0, 0, 40), 0);
        due("11 x below", x.more(0, 0, -41), BAD);
        due("11 x beyond", x.more(0, 0, 41), BAD);
        due("11 signs below", x.more(0, -1, 0), BAD);
        due("11 signs far below", x.more(0, Integer.MIN_VALUE, 0), BAD);
        due("11 signs beyond the lines", x.more(1, Integer.MAX_VALUE, -1), 1);
        // Were all lines signed, -9 would be one; but lines 31 .. 44 stay plain.
        due("11 whole of ten, lines 0 .. 30 alone signed", whole(10).more(0, Integer.MAX_VALUE, -18), 10);
        due("11 whole of ten", whole(10).more(0, 0, -3), 10);
        due("11 whole of ten, above -1", whole(10).more(0, 0, -2), 1);
    }

    private static void just() {
        SpreadNets x = petersen();
        due("12 just 3", x.just(0, 0, 6), 1);
        due("12 just 1", x.just(0, 0, 2), 5);
        due("12 just -2", x.just(0, 0, -4), 4);
        due("12 just 0", x.just(0, 0, 0), 0);
        due("12 all signed, just 2", x.just(0, 32767, 4), 4);
        due("12 ring of 5, just 2", ringOf(5, 1).just(0, 0, 4), 1);
        due("12 ring of 5, nothing else", ringOf(5, 1).just(0, 0, 1), 0);
        due("12 no lines", with(10).just(0, 0, 0), 10);
        // 5 own numbers of a ring of 5 with one line signed: -2 once.
        due("12 signed ring of 5", ringOf(5, 1).just(0, 16, -4), 1);
        due("12 x below", x.just(0, 0, -41), BAD);
        due("12 x beyond", x.just(0, 0, 41), BAD);
        due("12 lowest x", x.just(0, 0, -40), 0);
        due("12 signs below", x.just(0, -1, 0), BAD);
    }

    private static void second() {
        due("13 Petersen", petersen().second(0), 2);
        due("13 one knot", new SpreadNets().second(0), -20);
        due("13 whole", whole(10).second(0), -2);
        due("13 no lines", with(10).second(0), 0);
        // Two wholes of five: 4 twice.
        SpreadNets twice = whole(5);
        twice.net(1, 2);
        twice.product(0, 1, 2);
        due("13 two wholes of five", twice.second(2), 8);
        // The second own number of a ring of 5 is 0.618.., of a ring of 8 it is 1.414..
        due("13 ring of 5", ringOf(5, 1).second(0), 2);
        due("13 ring of 8", ringOf(8, 1).second(0), 3);
        due("13 one line", with(2, "01").second(0), -2);
    }

    private static void span() {
        due("14 Petersen", petersen().span(0, 0), 6);
        due("14 ring of 4", ringOf(4, 1).span(0, 0), 4);
        // One line signed: 1.414.. and -1.414.., each twice.
        due("14 ring of 4, one signed", ringOf(4, 1).span(0, 1), 3);
        due("14 ring of 4, two signed", ringOf(4, 1).span(0, 3), 4);
        due("14 ring of 3, all signed", ringOf(3, 1).span(0, 7), 4);
        due("14 whole of 4, one signed", whole(4).span(0, 1), 5);
        due("14 whole of 4, all signed", whole(4).span(0, 63), 6);
        due("14 whole of ten", whole(10).span(0, 0), 18);
        due("14 no lines", with(5).span(0, 9), 0);
        due("14 signs below", ringOf(4, 1).span(0, -1), BAD);
    }

    private static void best() {
        due("15 ring of 4", ringOf(4, 1).best(0), 1);
        due("15 ring of 5", ringOf(5, 1).best(0), 0);
        due("15 whole of 4", whole(4).best(0), 1);
        due("15 no lines", with(10).best(0), 0);
        due("15 a tree", with(10, "01", "12", "23", "34", "45", "56", "67", "78", "89").best(0), 0);
        // Two rings of four, lines 01 03 12 23 and 45 47 56 67: one line of each is signed.
        SpreadNets two = with(8, "01", "12", "23", "30", "45", "56", "67", "74");
        due("15 two rings of 4", two.best(0), 1 | 16);
        bestByTrying("three by three", 6, "03", "04", "05", "13", "14", "15", "23", "24", "25");
        bestByTrying("whole of 5 less a line", 5, "01", "02", "03", "04", "12", "13", "14", "23", "24");
        due("15 ten lines", whole(5).best(0), NO);
    }

    /** Nine lines. Each signing is asked of a new object, as one object answers 512 calls alone. */
    private static void bestByTrying(String what, int n, String... lines) {
        int best = 0;
        int least = Integer.MAX_VALUE;
        for (int signs = 0; signs < 512; signs++) {
            int span = with(n, lines).span(0, signs);
            if (span < least) {
                least = span;
                best = signs;
            }
        }
        due("15 " + what, with(n, lines).best(0), best);
    }

    private static void walks() {
        SpreadNets x = ringOf(4, 1);
        due("16 none there", x.walks(0, 0, 1, 0), 0);
        due("16 staying", x.walks(0, 1, 1, 0), 1);
        due("16 one step", x.walks(0, 0, 3, 1), 1);
        due("16 two steps", x.walks(0, 0, 2, 2), 2);
        due("16 there and back", x.walks(0, 0, 0, 4), 8);
        due("16 twelve steps", x.walks(0, 0, 0, 12), 2048);
        // A path 0 1 2: from an end two steps on, and from the middle back.
        due("16 path", with(3, "01", "12").walks(0, 0, 2, 2), 1);
        due("16 path, middle", with(3, "01", "12").walks(0, 1, 1, 2), 2);
        due("16 whole of ten, back", whole(10).walks(0, 0, 0, 12), 28242953649L);
        due("16 too many steps", x.walks(0, 0, 0, 13), BAD);
        due("16 steps below", x.walks(0, 0, 0, -1), BAD);
        due("16 a beyond", x.walks(0, 4, 0, 1), BAD);
        due("16 b beyond", x.walks(0, 0, 4, 1), BAD);
        due("16 b below", x.walks(0, 0, -1, 1), BAD);
    }

    private static void uneven() {
        SpreadNets x = ringOf(4, 1);
        // One step: 4 - 2 at two knots, 0 - 2 at the two others.
        due("17 ring of 4", x.uneven(0, 0, 1), 8);
        due("17 no step", x.uneven(0, 2, 0), 3 + 3);
        due("17 no lines, no step", with(10).uneven(0, 0, 0), 18);
        due("17 no lines, a step", with(10).uneven(0, 0, 1), 0);
        due("17 whole of ten", whole(10).uneven(0, 5, 12), 18);
        SpreadNets path = with(3, "01", "12");
        due("17 not even", path.uneven(0, 0, 1), NO);
        due("17 not even, steps beyond", path.uneven(0, 0, 13), BAD);
        due("17 not even, knot beyond", path.uneven(0, 3, 1), BAD);
        due("17 steps below", x.uneven(0, 0, -1), BAD);
        due("17 knot below", x.uneven(0, -1, 1), BAD);
    }

    private static void apart() {
        SpreadNets x = petersen();
        due("18 halves", x.apart(0, 31, 992), 5);
        due("18 one knot to all", x.apart(0, 1, 1023), 1);
        due("18 three neighbours", x.apart(0, 2 | 16 | 32, 256 | 512 | 4), 3);
        due("18 all", x.apart(0, 1023, 1023), 10);
        due("18 none", x.apart(0, 0, 1023), 0);
        // All ways of a star go through its middle.
        SpreadNets star = with(7, "01", "02", "03", "04", "05", "06");
        due("18 star", star.apart(0, 14, 112), 1);
        due("18 star, one of both", star.apart(0, 14, 120), 2);
        due("18 star, the middle of both", star.apart(0, 15, 113), 1);
        // The first way must give back its middle: 0 2 5 bars 1 2 4, but 0 3 5 does not.
        SpreadNets cross = with(6, "02", "03", "12", "25", "24", "35");
        due("18 a way that gives back", cross.apart(0, 3, 48), 2);
        due("18 two parts", with(4, "01", "23").apart(0, 3, 12), 0);
        due("18 from beyond", star.apart(0, 128, 1), BAD);
        due("18 to beyond", star.apart(0, 1, 128), BAD);
        due("18 below", star.apart(0, -1, 1), BAD);
        due("18 far below", star.apart(0, 1, Integer.MIN_VALUE), BAD);
        due("18 ten beyond", x.apart(0, 1024, 1), BAD);
    }

    private static void distance() {
        SpreadNets x = with(10, "09", "98", "81", "17", "76", "62", "25", "53", "34");
        due("19 the whole path", x.distance(0, 0, 4), 9);
        due("19 back", x.distance(0, 4, 0), 9);
        due("19 the same", x.distance(0, 5, 5), 0);
        due("19 next", x.distance(0, 5, 3), 1);
        due("19 Petersen", petersen().distance(0, 0, 8), 2);
        due("19 no way", with(4, "01", "23").distance(0, 0, 3), NONE);
        due("19 one knot", x.distance(1, 0, 0), 0);
        due("19 beyond", x.distance(0, 0, 10), BAD);
        due("19 below", x.distance(0, -1, 0), BAD);
    }

    private static void round() {
        due("20 Petersen", petersen().round(0), 5);
        due("20 ring of ten", ringOf(10, 1).round(0), 10);
        due("20 whole", whole(10).round(0), 3);
        due("20 a tree", with(4, "01", "12", "13").round(0), NONE);
        due("20 no lines", with(10).round(0), NONE);
        due("20 one line is not used twice", with(2, "01").round(0), NONE);
        due("20 the shorter of two", with(9, "01", "12", "23", "34", "40", "56", "67", "78", "85").round(0), 4);
    }

    private static void odd() {
        // Lines: 0 is 01, 1 is 03, 2 is 12, 3 is 23.
        SpreadNets x = ringOf(4, 1);
        due("21 nothing", x.odd(0, 0), 0);
        due("21 one line", x.odd(0, 1), 2);
        due("21 two lines of a knot", x.odd(0, 3), 2);
        due("21 two lines apart", x.odd(0, 1 | 8), 4);
        due("21 all", x.odd(0, 15), 0);
        due("21 beyond", x.odd(0, 16), BAD);
        due("21 below", x.odd(0, -1), BAD);
        due("21 far below", x.odd(0, Long.MIN_VALUE), BAD);
        due("21 no lines", x.odd(1, 0), 0);
        due("21 no lines, a bit", x.odd(1, 1), BAD);
        due("21 45 lines", whole(10).odd(0, 1L << 44), 2);
        due("21 45 lines, beyond", whole(10).odd(0, 1L << 45), BAD);
    }

    private static void flipped() {
        SpreadNets x = ringOf(4, 1);
        due("22 nothing", x.flipped(0, 0), 0);
        due("22 one line goes", x.flipped(0, 4), 0);
        due("22 no line with both ends", x.flipped(0, 3), 3);
        due("22 three make four", x.flipped(0, 7), 15);
        // All knots are odd: line 01 changes first, then 23, not 03 and 12.
        due("22 the first first", x.flipped(0, 2 | 4), 15);
        due("22 and back", x.flipped(0, 1 | 8), 0);
        due("22 the last of 45", whole(10).flipped(0, 1L << 44), 0);
        due("22 beyond", x.flipped(0, 16), BAD);
        due("22 below", x.flipped(0, -2), BAD);
    }

    private static void digest() {
        SpreadNets x = new SpreadNets();
        long h = 241;
        for (int i = 0; i < 4; i++) h = (31 * h + 1) * 31;
        due("23 new", x.digest(), h);
        x.net(2, 3);
        x.line(2, 0, 2, true);
        int[] values = {1, 0, 1, 0, 3, 4, 0, 1, 1, 0};
        h = 241;
        for (int v : values) h = 31 * h + v;
        due("23 a line", x.digest(), h);
        x.ring(2, 10, 31);
        x.net(2, 1);
        x.net(2, 3);
        h = 241;
        for (int v : new int[] {1, 0, 1, 0, 3, 0, 0, 0, 1, 0}) h = 31 * h + v;
        due("23 nothing is left of former lines", x.digest(), h);
    }

    private static void wrongNets() {
        SpreadNets x = petersen();
        long before = x.digest();
        for (int net : WRONG_NETS) {
            due("2 wrong net", x.net(net, 3), BAD);
            due("3 wrong net", x.line(net, 0, 1, true), BAD);
            due("4 wrong net", x.ring(net, 3, 1), BAD);
            due("5 wrong first", x.product(net, 1, 2), BAD);
            due("5 wrong second", x.product(1, net, 2), BAD);
            due("5 wrong third", x.product(1, 1, net), BAD);
            due("6 wrong from", x.turned(net, 1), BAD);
            due("6 wrong to", x.turned(0, net), BAD);
            due("7 wrong net", x.about(net, 0), BAD);
            due("8 wrong net", x.near(net, 0), BAD);
            due("9 wrong net", x.number(net, 0, 1), BAD);
            due("10 wrong net", x.growth(net, true, 0), BAD);
            due("11 wrong net", x.more(net, 0, 0), BAD);
            due("12 wrong net", x.just(net, 0, 0), BAD);
            due("13 wrong net", x.second(net), BAD);
            due("14 wrong net", x.span(net, 0), BAD);
            due("15 wrong net", x.best(net), BAD);
            due("16 wrong net", x.walks(net, 0, 0, 0), BAD);
            due("17 wrong net", x.uneven(net, 0, 0), BAD);
            due("18 wrong net", x.apart(net, 0, 0), BAD);
            due("19 wrong net", x.distance(net, 0, 0), BAD);
            due("20 wrong net", x.round(net), BAD);
            due("21 wrong net", x.odd(net, 0), BAD);
            due("22 wrong net", x.flipped(net, 0), BAD);
        }
        due("23 nothing changed by refusals", x.digest(), before);
    }
}
