import java.util.function.Supplier;

/** The edges of section 3, TRIED, and of promises 15 to 22. */
public final class TriedEdgesTest {
    private static final int LEAST = Integer.MIN_VALUE;
    private static final int MOST = Integer.MAX_VALUE;
    private static final String EIGHT =
        "b30 0 5;h0 9 0 a;h2 9 0 b;h4 9 0 c;h6 9 0 d;h8 9 0 e;h10 9 0 aa;h12 9 0 ab;h14 9 0 ac;";

    public static void main(String[] args) {
        orderOfNone();
        orderOfSixAtMost();
        orderPlaces();
        orderNotOneApart();
        orderSeenByTwo();
        orderThroughSmokeOfTheRow();
        orderThroughSmokeOfThisNight();
        orderTriedAnew();
        orderByWindAndFogOfNow();
        orderTheLesserFirst();
        signersOfCheapPowder();
        signersOfAll();
        farShoreBounds();
        farShoreOfStars();
        crossTwoApart();
        crossNoneBetween();
        treatyOfNoneAndOne();
        treatyAtTheReach();
        treatyAbove9();
        treatyByWindAndFogOfNow();
        forgedFigures();
        forgedPlaces();
        forgedWhat();
        forgedOdds();
        dampOfNone();
        dampAlwaysAndNever();
        dampEachCut();
        partnerWithRocketsLeft();
        partnerOfOddAndEven();
        partnerOfLikeOnes();
        partnerRefusedByAll();
        partnersOfEight();
        Check.end();
    }

    private static Supplier<FireworkDeeds> maker(String text) {
        return () -> Check.bay(text);
    }

    private static void order(String what, Supplier<FireworkDeeds> maker, int set, int... due) {
        for (int i = 0; i < due.length; i++) {
            int place = i;
            Twins.unchanged(what + ": order(" + set + ", " + i + ")", maker, x -> x.order(set, place), due[i]);
        }
    }

    private static void orderOfNone() {
        for (int i : new int[] {-1, 0, 1, 6}) {
            Twins.unchanged("order(0, " + i + ")", Twins::busy, x -> x.order(0, i), Check.NONE);
        }
    }

    private static void orderOfSixAtMost() {
        order("six", maker(EIGHT), 63, 0, 1, 2, 3, 4, 5, -1);
        order("another six", maker(EIGHT), 252, 2, 3, 4, 5, 6, 7, -1);
        order("seven", maker(EIGHT), 127, Check.OUTSIDE);
        order("another seven", maker(EIGHT), 254, Check.OUTSIDE);
        order("eight", maker(EIGHT), 255, Check.OUTSIDE);
        Twins.unchanged("seven, no such place", maker(EIGHT), x -> x.order(127, -1), Check.OUTSIDE);
        Twins.unchanged("seven, no such place", maker(EIGHT), x -> x.order(127, 7), Check.OUTSIDE);
    }

    private static void orderPlaces() {
        FireworkDeeds x = Check.bay(EIGHT);
        for (int i : new int[] {LEAST, -2, -1, 3, 4, 6, MOST}) {
            Check.due("order of three at " + i, x.order(7, i), Check.NONE);
        }
        Check.due("the first", x.order(7, 0), 0);
        Check.due("the last", x.order(7, 2), 2);
        Check.due("one alone", x.order(128, 0), 7);
        Check.due("behind one alone", x.order(128, 1), Check.NONE);
    }

    private static void orderNotOneApart() {
        order("1 apart", maker("b9 0 5;h3 9 0 a;h4 9 0 b;h8 9 0 c;"), 3, -1, -1);
        order("2 apart", maker("b9 0 5;h3 9 0 a;h5 9 0 b;h8 9 0 c;"), 3, 0, 1);
        order("1 apart, one between in the row", maker("b9 0 5;h3 9 0 a;h4 9 0 b;h8 9 0 c;"), 7, 0, 2, 1);
        order("1 apart to the left", maker("b9 0 5;h4 9 0 a;h3 9 0 b;h8 9 0 c;"), 7, 0, 2, 1);
        order("three side by side", maker("b9 0 5;h3 9 0 a;h4 9 0 b;h5 9 0 c;"), 7, -1, -1, -1);
        order("four side by side", maker("b9 0 5;h3 9 0 a;h4 9 0 b;h5 9 0 c;h6 9 0 d;"), 15, 1, 3, 0, 2);
    }

    private static void orderSeenByTwo() {
        order("only two houses", maker("b9 0 5;h3 9 0 a;h5 9 0 b;"), 1, -1);
        order("both others at the reach", maker("b9 0 5;h4 1 0 a;h0 9 0 b;h8 9 0 c;"), 1, 0);
        order("one is farther", maker("b10 0 5;h4 1 0 a;h0 9 0 b;h9 9 0 c;"), 1, -1);
        order("three, one is farther", maker("b10 0 5;h4 1 0 a;h0 9 0 b;h9 9 0 c;h8 9 0 d;"), 1, 0);
        order("one of the set is not seen by two", maker("b30 0 5;h4 9 0 a;h0 9 0 b;h8 9 0 c;h29 1 0 d;"), 9, -1, -1);
    }

    private static void orderThroughSmokeOfTheRow() {
        // 0 and 1 are both held at the last cell, 2 and 3 are elsewhere
        String near = "b10 0 10;h6 9 0 a;h8 9 0 b;h2 9 0 c;h0 9 0 d;";
        order("no smoke, a minute is enough", maker(near + "m0;"), 3, 0, 1);
        order("smoke of 1, side by side", maker(near + "m1;"), 3, -1, -1);
        order("smoke of 1, one between", maker(near + "m1;"), 7, 0, 2, 1);
        order("smoke of 2, one between", maker(near + "m2;"), 7, -1, -1, -1);
        order("smoke of 2, two between", maker(near + "m2;"), 15, 0, 2, 3, 1);
        order("smoke of 3, two between", maker(near + "m3;"), 15, -1, -1, -1, -1);
    }

    private static FireworkDeeds smoky(int smoke, int minutes) {
        FireworkDeeds x = Check.bay("b10 0 5;h3 9 9 a;h4 9 9 b;h8 9 9 c;h0 9 9 d;m" + smoke + ";");
        x.wind(1);
        x.light(0);
        x.wind(0);
        if (minutes > 0) {
            x.minute(minutes);
        }
        return x;
    }

    private static void orderThroughSmokeOfThisNight() {
        order("hidden now", () -> smoky(0, 0), 2, -1);
        order("hidden still", () -> smoky(3, 3), 2, -1);
        order("smoke is gone", () -> smoky(3, 4), 2, 1);
        order("hidden at the first place, not at the second", () -> smoky(3, 3), 6, 2, 1);
        order("hidden at the second place, too", () -> smoky(3, 2), 6, -1, -1);
    }

    private static void orderTriedAnew() {
        Supplier<FireworkDeeds> smoky = () -> {
            FireworkDeeds x = Check.bay("b20 0 5;h14 9 9 a;h16 9 9 b;h5 9 9 c;h13 9 9 d;h10 9 9 e;m1;");
            x.light(4);
            x.wind(5);
            return x;
        };
        // behind 0 none can follow: 1 is hidden by it, 2 by 4's smoke, 3 is its neighbour; then 0's tried rocket is none
        order("the first that was tried hides no other", smoky, 15, 1, 3, 2, 0);
    }

    private static void orderByWindAndFogOfNow() {
        Supplier<FireworkDeeds> far = () -> {
            FireworkDeeds x = Check.bay("b9 1 5;h4 1 0 a;h0 9 0 b;h8 9 0 c;");
            x.fog(2);
            return x;
        };
        order("fog 2 takes a cell", far, 1, -1);
        order("fog 1 takes none", maker("b9 1 5;h4 1 0 a;h0 9 0 b;h8 9 0 c;"), 1, 0);
        order("wind takes it away", maker("b9 0 6;h4 1 0 a;h0 9 0 b;h8 9 0 c;"), 1, -1);
    }

    private static void orderTheLesserFirst() {
        order("by number, not by cell", maker("b30 0 5;h14 9 0 a;h2 9 0 b;h8 9 0 c;"), 7, 0, 1, 2);
        order("the least that fits", maker("b30 0 5;h4 9 0 a;h5 9 0 b;h8 9 0 c;h11 9 0 d;"), 15, 0, 2, 1, 3);
    }

    private static void signersOfCheapPowder() {
        FireworkDeeds x = Check.bay("b9 0 5;h0 1 1 a;h2 2 1 b;h4 3 1 c;h6 1 1 d;");
        int[] due = {0, 1, 2 + 4, 8};
        for (int h = 0; h < due.length; h++) {
            Check.due("signers(" + h + ")", x.signers(h), due[h]);
        }
        Check.due("of the only one", Check.bay("b9 0 5;h0 1 1 a;").signers(0), 1);
        Check.due("of the only one, dear", Check.bay("b9 0 5;h0 3 1 a;").signers(0), 1);
    }

    private static void signersOfAll() {
        FireworkDeeds dear = Check.bay(EIGHT);
        for (int h = 0; h < 8; h++) {
            Check.due("dear signers(" + h + ")", dear.signers(h), 1 << h);
        }
        FireworkDeeds cheap = Check.bay(EIGHT.replace(" 9 0 ", " 2 0 "));
        for (int h = 0; h < 8; h++) {
            int due = h == 0 ? 0 : h == 7 ? 64 + 128 : 1 << h - 1;
            Check.due("cheap signers(" + h + ")", cheap.signers(h), due);
        }
    }

    private static void farShoreBounds() {
        for (int what : new int[] {-1, 2, LEAST, MOST}) {
            Twins.unchanged("farShore(" + what + ")", Twins::busy, x -> x.farShore(what), Check.OUTSIDE);
            Twins.unchanged("new farShore(" + what + ")", FireworkDeeds::new, x -> x.farShore(what), Check.OUTSIDE);
        }
        Twins.unchanged("of no house, 0", FireworkDeeds::new, x -> x.farShore(0), 0);
        Twins.unchanged("of no house, 1", FireworkDeeds::new, x -> x.farShore(1), 0);
    }

    private static void farShoreOfStars() {
        FireworkDeeds one = Check.bay("b9 0 5;h0 1 1 e;");
        Check.due("one star is no other's", one.farShore(0), 0);
        Check.due("one star is alike from both ends", one.farShore(1), 1);
        FireworkDeeds five = Check.bay("b9 0 5;h0 1 1 abcde;h1 1 1 edcba;h2 1 1 edcbb;h3 1 1 ab;h4 1 1 abcba;h5 1 1 abba;");
        Check.due("five stars from the end", five.farShore(0), 1 + 2);
        Check.due("five, four from both ends", five.farShore(1), 16 + 32);
        FireworkDeeds all = Check.bay(
            "b9 0 5;h0 1 1 ab;h1 1 1 ba;h2 1 1 ac;h3 1 1 ca;h4 1 1 ad;h5 1 1 da;h6 1 1 ae;h7 1 1 ea;");
        Check.due("all eight", all.farShore(0), 255);
        Check.due("none of eight", all.farShore(1), 0);
    }

    private static void crossTwoApart() {
        FireworkDeeds x = Check.bay("b9 0 5;h0 1 1 a;h1 1 1 b;h2 1 1 c;h3 1 1 d;h8 1 1 e;h7 1 1 aa;h6 1 1 bb;");
        Check.due("1 apart", x.cross(0, 1), Check.NONE);
        Check.due("2 apart", x.cross(0, 2), 1);
        Check.due("2 apart, turned", x.cross(2, 0), 1);
        Check.due("3 apart", x.cross(0, 3), Check.NONE);
        Check.due("at the last cell", x.cross(4, 6), 5);
        Check.due("8 apart", x.cross(0, 4), Check.NONE);
    }

    private static void crossNoneBetween() {
        FireworkDeeds x = Check.bay("b9 0 5;h0 1 1 a;h2 1 1 b;h8 1 1 c;h6 1 1 d;");
        Check.due("none between", x.cross(0, 1), Check.NONE);
        Check.due("none between, at the last cell", x.cross(3, 2), Check.NONE);
    }

    private static void treatyOfNoneAndOne() {
        String dim = "b30 20 10;h0 1 1 a;h29 1 1 b;";
        Twins.unchanged("of none", maker(dim), x -> x.treaty(0), 0);
        Twins.unchanged("of one", maker(dim), x -> x.treaty(1), 0);
        Twins.unchanged("of another one", maker(dim), x -> x.treaty(2), 0);
    }

    private static void treatyAtTheReach() {
        Check.due("both at the reach", Check.bay("b30 0 5;h0 1 1 a;h4 1 1 b;").treaty(3), 0);
        Check.due("one farther", Check.bay("b30 0 5;h0 1 1 a;h5 1 1 b;").treaty(3), 2);
        Check.due("one farther for one of them", Check.bay("b30 0 5;h0 1 1 a;h5 2 1 b;").treaty(3), 1);
        Check.due("a third is not of the set", Check.bay("b30 0 5;h0 1 1 a;h4 1 1 b;h29 1 1 c;").treaty(3), 0);
        Check.due("the farthest counts", Check.bay("b30 0 5;h0 1 1 a;h4 9 1 b;h7 9 1 c;").treaty(7), 3);
    }

    private static void treatyAbove9() {
        Check.due("9 is not enough", Check.bay("b30 0 5;h0 9 1 a;h29 9 1 b;").treaty(3), 17 + 17);
        Check.due("in the thickest fog", Check.bay("b30 20 5;h0 9 1 a;h29 9 1 b;").treaty(3), 27 + 27);
        Check.due("with the cheapest powder", Check.bay("b30 20 5;h0 1 1 a;h29 1 1 b;").treaty(3), 35 + 35);
        Check.due("eight", Check.bay(EIGHT.replace(" 9 0 ", " 1 0 ")).treaty(255), 2 * (10 + 8 + 6 + 4));
    }

    private static void treatyByWindAndFogOfNow() {
        // right over the other one, but fog leaves less than nothing of the reach
        FireworkDeeds x = Check.bay("b30 20 10;h5 1 1 a;h10 9 1 b;");
        Check.due("0 cells by less than nothing, 10 cells by 2", x.treaty(3), 6 + 8);
        x.fog(19);
        Check.due("fog 19", x.treaty(3), 5 + 7);
        x.wind(-5);
        Check.due("wind -5: 10 cells by -5, 0 cells by 3", x.treaty(3), 15);
        FireworkDeeds hidden = Check.bay("b30 0 10;h5 9 1 a;h10 9 1 b;h15 9 1 c;");
        hidden.wind(0);
        hidden.light(1);
        hidden.wind(5);
        Check.due("hidden is of no matter", hidden.treaty(3), 0);
    }

    private static void forged(int stars, int due) {
        // house 1 has one star, a
        Twins.unchanged("forged(1, " + stars + ", 0)", Twins::busy, x -> x.forged(1, stars, 0), due);
        if (due == Check.OUTSIDE) {
            Twins.unchanged("forged(1, " + stars + ", 1)", Twins::busy, x -> x.forged(1, stars, 1), due);
        }
    }

    private static void forgedFigures() {
        forged(1, 0);
        forged(5, 1);
        forged(0, Check.OUTSIDE);
        forged(6, Check.OUTSIDE);
        forged(9, Check.OUTSIDE);
        forged(10, Check.OUTSIDE);
        forged(16, Check.OUTSIDE);
        forged(61, Check.OUTSIDE);
        forged(101, Check.OUTSIDE);
        forged(11110, Check.OUTSIDE);
        forged(10111, Check.OUTSIDE);
        forged(60000, Check.OUTSIDE);
        forged(-1, Check.OUTSIDE);
        forged(-12, Check.OUTSIDE);
        forged(LEAST, Check.OUTSIDE);
        forged(MOST, Check.OUTSIDE);
    }

    private static void forgedPlaces() {
        forged(11, 1);
        forged(55, 2);
        forged(111, 2);
        forged(1111, 3);
        forged(11111, 4);
        forged(55555, 5);
        forged(55556, Check.OUTSIDE);
        forged(99999, Check.OUTSIDE);
        forged(100000, Check.OUTSIDE);
        forged(111111, Check.OUTSIDE);
        forged(1111111111, Check.OUTSIDE);
        FireworkDeeds x = Check.bay("b9 0 5;h0 1 1 abcde;");
        Check.due("all five alike", x.forged(0, 12345, 0), 0);
        Check.due("the last is missing", x.forged(0, 1234, 0), 1);
        Check.due("the first is missing", x.forged(0, 2345, 0), 5);
        Check.due("one alone", x.forged(0, 1, 0), 4);
        Check.due("one alone, and unlike", x.forged(0, 2, 0), 5);
    }

    private static void forgedWhat() {
        for (int what : new int[] {-1, 2, LEAST, MOST}) {
            Twins.unchanged("what = " + what, Twins::busy, x -> x.forged(0, 1, what), Check.OUTSIDE);
        }
        Twins.unchanged("what = 0", Twins::busy, x -> x.forged(0, 123, 0), 0);
        Twins.unchanged("what = 1", Twins::busy, x -> x.forged(0, 123, 1), 729000000);
    }

    private static void forgedOdds() {
        FireworkDeeds x = Check.bay("b9 0 5;h0 1 1 abcde;h1 1 1 a;");
        Check.due("all five alike", x.forged(0, 12345, 1), 590490000);
        Check.due("four alike", x.forged(0, 12344, 1), 65610000);
        Check.due("none of five alike", x.forged(0, 23451, 1), 10000);
        Check.due("one place, alike", x.forged(1, 1, 1), 900000000);
        Check.due("one place, unlike", x.forged(1, 2, 1), 100000000);
        Check.due("one alike, four that only one has", x.forged(1, 12345, 1), 90000);
    }

    private static void dampOfNone() {
        Twins.unchanged("of no house", Twins::busy, x -> x.damp(0), 1000000000);
        Twins.unchanged("of no green star", Twins::busy, x -> x.damp(2 + 8), 1000000000);
        Twins.unchanged("of one green star", Twins::busy, x -> x.damp(1), 800000000);
    }

    private static void dampAlwaysAndNever() {
        String greens = "b9 0 5;h0 1 1 ccccc;h1 1 1 cccc;h2 1 1 a;";
        Check.due("never", Check.bay(greens + "g0;").damp(7), 1000000000);
        Check.due("always", Check.bay(greens + "g100;").damp(7), 0);
        Check.due("always, but none is green", Check.bay(greens + "g100;").damp(4), 1000000000);
        Check.due("once of a hundred", Check.bay("b9 0 5;h0 1 1 c;g1;").damp(1), 990000000);
        Check.due("99 of a hundred", Check.bay("b9 0 5;h0 1 1 c;g99;").damp(1), 10000000);
    }

    private static void dampEachCut() {
        String greens = "b9 0 5;h0 1 1 cccc;h1 1 1 ca;h2 1 1 ac;h3 1 1 ccc;h4 1 1 ccccc;g99;";
        Check.due("four", Check.bay(greens).damp(1), 10);
        Check.due("five", Check.bay(greens).damp(3), 0);
        Check.due("all", Check.bay(greens).damp(31), 0);
        // 729, 531441 .. at once would be cut otherwise than each by itself
        FireworkDeeds x = Check.bay("b9 0 5;h0 1 1 ccccc;h1 1 1 cccca;h2 1 1 c;g27;");
        int due = 1000000000;
        for (int i = 0; i < 10; i++) {
            due = (int) (due * 73L / 100);
        }
        Check.due("ten, each cut", x.damp(7), due);
    }

    private static void partners(String what, FireworkDeeds x, int... due) {
        for (int h = 0; h < due.length; h++) {
            Check.due(what + ": partner(" + h + ")", x.partner(h), due[h]);
        }
    }

    private static void partnerWithRocketsLeft() {
        partners("one each", Check.bay("b9 0 5;h0 1 1 a;h1 1 1 b;"), 1, 0);
        partners("who is asked has none", Check.bay("b9 0 5;h0 1 1 a;h1 1 0 b;"), -1, -1);
        partners("who asks has none", Check.bay("b9 0 5;h0 1 0 a;h1 1 1 b;"), -1, -1);
        FireworkDeeds x = Check.bay("b9 0 5;h0 1 2 a;h1 1 1 b;h5 1 1 c;h8 1 1 d;");
        partners("all have some", x, 1, 0, 3, 2);
        x.light(1);
        partners("the last of 1 is lit", x, -1, -1, 3, 2);
        x.undo();
        x.light(0);
        partners("one of 0 is left", x, 1, 0, 3, 2);
        x.minute(1);
        x.light(0);
        partners("the last of 0 is lit", x, -1, -1, 3, 2);
    }

    private static void partnerOfOddAndEven() {
        partners("one alone", Check.bay("b9 0 5;h0 1 1 a;"), -1);
        partners("only even ones have some", Check.bay("b9 0 5;h0 1 1 a;h1 1 0 b;h2 1 1 c;"), -1, -1, -1);
        partners("only odd ones have some", Check.bay("b9 0 5;h0 1 0 a;h1 1 1 b;h2 1 0 c;h3 1 1 d;"), -1, -1, -1, -1);
    }

    private static void partnerOfLikeOnes() {
        partners("0 asks the least of two as near", Check.bay("b9 0 5;h4 1 1 a;h6 1 1 b;h0 1 0 c;h2 1 1 d;"), 1, 0, -1, -1);
        partners("1 keeps the least of two as near", Check.bay("b9 0 5;h6 1 1 a;h4 1 1 b;h2 1 1 c;"), 1, 0, -1);
        // 0 asks 3 first, which prefers 2; by then 1, as near to 0 as to 4, has 4 already
        FireworkDeeds late = Check.bay("b30 0 5;h5 1 1 a;h10 1 1 b;h2 1 1 c;h3 1 1 d;h15 1 1 e;");
        partners("1 takes the least of two as near, though it asks later", late, 1, 0, 3, 2, -1);
        partners("a cell nearer wins", Check.bay("b9 0 5;h7 1 1 a;h4 1 1 b;h2 1 1 c;"), -1, 2, 1);
        partners("a cell nearer is asked", Check.bay("b9 0 5;h4 1 1 a;h7 1 1 b;h0 1 0 c;h2 1 1 d;"), 3, -1, -1, 0);
    }

    private static void partnerRefusedByAll() {
        FireworkDeeds x = Check.bay("b30 0 5;h29 1 1 a;h4 1 1 b;h3 1 1 c;h8 1 1 d;h9 1 1 e;");
        partners("0 is refused by both", x, -1, 2, 1, 4, 3);
    }

    private static void partnersOfEight() {
        FireworkDeeds x = Check.bay(
            "b30 0 5;h0 1 1 a;h1 1 1 b;h2 1 1 c;h4 1 1 d;h5 1 1 e;h8 1 1 aa;h9 1 1 ab;h13 1 1 ac;");
        // 2 asks 1 first, as near as 0 and greater, and is refused; 4 is nearer to 3; 6 is nearer to 5; so 2 goes to the last
        partners("eight", x, 1, 0, 7, 4, 3, 6, 5, 2);
    }
}
