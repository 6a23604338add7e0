import java.util.function.Supplier;
import java.util.function.ToIntFunction;

/** The edges of section 2, MINUTES, and of promises 7 to 14. */
public final class NightEdgesTest {
    private static final int LEAST = Integer.MIN_VALUE;
    private static final int MOST = Integer.MAX_VALUE;

    public static void main(String[] args) {
        rocketsTillNoneIsLeft();
        signedOnceAMinute();
        heldWithinTheCells();
        hiddenForTheSmokesMinutes();
        hiddenInThisMinuteByWhatWasLitAhead();
        hiddenOverThatCellAlone();
        hiddenByAnotherHouseAlone();
        hiddenByTheLatestRocketAlone();
        seenAtTheReachAndNoFarther();
        fogIsCutByHalf();
        reachOfNothingAndLess();
        cheapPowderIs1Or2();
        slurredToTheNextGreaterCell();
        contractAtThisMinuteOrTheOneAhead();
        contractNeedsAThird();
        contractNeedsAThirdThatIsNotRead();
        contractOfUnlikeHouses();
        contractSeenBothTimes();
        contractCountedOnce();
        contractForGood();
        allContractsOfEight();
        conditionalAsRead();
        minuteBounds();
        driftBounds();
        minutesAbove90000();
        fogBounds();
        windBounds();
        undoOfNone();
        undoOfEachKind();
        undoOfWhoSawIt();
        undoLeavesTheSeed();
        undoTwentyAtMost();
        undoRoundAndRound();
        undoIsNotUndone();
        Check.end();
    }

    private static Supplier<FireworkDeeds> maker(String text) {
        return () -> Check.bay(text);
    }

    private static void rocketsTillNoneIsLeft() {
        Twins.unchanged("no rocket from the first", maker("b9 0 5;h0 9 0 a;"), x -> x.light(0), Check.NOT);
        FireworkDeeds x = Check.bay("b9 0 5;h0 9 9 a;");
        for (int left = 8; left >= 0; left--) {
            x.minute(1);
            Check.due("light(0)", x.light(0), 0);
            Check.due("rockets left", x.house(0, 2), left);
        }
        Twins.unchanged("none is left", () -> {
            FireworkDeeds last = Check.bay("b9 0 5;h0 9 1 a;h1 9 1 b;");
            last.light(0);
            last.minute(1);
            return last;
        }, last -> last.light(0), Check.NOT);
    }

    private static void signedOnceAMinute() {
        Supplier<FireworkDeeds> lit = () -> {
            FireworkDeeds x = Check.bay("b9 0 5;h0 9 2 a;h1 9 1 b;");
            x.light(0);
            return x;
        };
        Twins.unchanged("signed already", lit, x -> x.light(0), Check.NOT);
        Twins.unchanged("signed already, the wind is another", () -> {
            FireworkDeeds x = lit.get();
            x.wind(2);
            return x;
        }, x -> x.light(0), Check.NOT);
        FireworkDeeds later = lit.get();
        later.minute(1);
        Check.due("a minute later", later.light(0), 0);
        FireworkDeeds undone = lit.get();
        undone.undo();
        Check.due("undone, it is not signed", undone.light(0), 0);
        Check.due("one rocket less, not two", undone.house(0, 2), 1);
    }

    private static void over(String text, int wind, int cell) {
        FireworkDeeds x = Check.bay(text);
        x.wind(wind);
        x.light(0);
        Check.due(text + " with wind " + wind + " is over", x.house(0, 6), cell);
    }

    private static void heldWithinTheCells() {
        over("b9 0 5;h5 9 1 a;", -5, 0);
        over("b9 0 5;h4 9 1 a;", -5, 0);
        over("b9 0 5;h6 9 1 a;", -5, 1);
        over("b9 0 5;h0 9 1 a;", -1, 0);
        over("b9 0 5;h0 9 1 a;", 0, 0);
        over("b9 0 5;h3 9 1 a;", 5, 8);
        over("b9 0 5;h4 9 1 a;", 5, 8);
        over("b9 0 5;h2 9 1 a;", 5, 7);
        over("b9 0 5;h8 9 1 a;", 1, 8);
        over("b2 0 5;h0 9 1 a;", 5, 1);
        over("b2 0 5;h1 9 1 a;", -5, 0);
        over("b30 0 5;h29 9 1 a;", 5, 29);
        over("b30 0 5;h25 9 1 a;", 5, 29);
        over("b30 0 5;h24 9 1 a;", 5, 29);
        over("b30 0 5;h23 9 1 a;", 5, 28);
    }

    /** House 0's rocket hangs over house 1's cell; house 2 looks. */
    private static FireworkDeeds smoky(int smoke) {
        FireworkDeeds x = Check.bay("b9 0 5;h3 9 9 a;h4 9 9 b;h5 9 9 d;m" + smoke + ";");
        x.wind(1);
        x.light(0);
        x.wind(0);
        return x;
    }

    private static void hiddenForTheSmokesMinutes() {
        for (int smoke = 0; smoke <= 9; smoke++) {
            FireworkDeeds x = smoky(smoke);
            Check.due("smoke " + smoke + ", now", x.sees(2, 1), 0);
            for (int ago = 1; ago <= smoke; ago++) {
                x.minute(1);
                Check.due("smoke " + smoke + ", " + ago + " ago", x.sees(2, 1), 0);
            }
            x.minute(1);
            Check.due("smoke " + smoke + ", one minute more", x.sees(2, 1), 1);
        }
    }

    private static void hiddenInThisMinuteByWhatWasLitAhead() {
        FireworkDeeds x = smoky(0);
        Check.due("lit behind it, hidden: no contract", x.light(1), 0);
        Check.due("hidden, but signed", x.house(1, 5), 0);
        Check.due("2 is seen with 0, not with 1", x.light(2), 1);
        Check.due("contract(0, 2)", x.contract(0, 2), 1);
        Check.due("contract(1, 2)", x.contract(1, 2), 0);
        FireworkDeeds ahead = Check.bay("b9 0 5;h3 9 9 a;h4 9 9 b;h5 9 9 d;m0;");
        ahead.light(1);
        ahead.wind(1);
        Check.due("1 was lit ahead: it hides 0", ahead.light(0), 0);
        ahead.wind(0);
        Check.due("1 was seen: with 2 it holds", ahead.light(2), 1);
        Check.due("contract(1, 2) holds", ahead.contract(1, 2), 1);
    }

    private static void hiddenOverThatCellAlone() {
        FireworkDeeds x = Check.bay("b9 0 5;h3 9 9 a;h4 9 9 b;h5 9 9 d;");
        x.light(0);
        Check.due("a cell aside", x.sees(2, 1), 1);
        x.wind(-1);
        Check.due("over the same by the wind", x.sees(2, 1), 0);
        x.wind(1);
        Check.due("over another by the wind", x.sees(2, 1), 1);
        FireworkDeeds held = Check.bay("b9 0 10;h7 9 9 a;h8 9 9 b;h5 9 9 d;");
        held.light(0);
        Check.due("both held at the last cell", held.sees(2, 1), 0);
    }

    private static void hiddenByAnotherHouseAlone() {
        FireworkDeeds x = Check.bay("b9 0 5;h3 9 9 a;h4 9 9 b;h5 9 9 d;");
        x.light(1);
        Check.due("not by its own", x.sees(2, 1), 1);
        x.minute(1);
        x.light(1);
        x.light(2);
        Check.due("its own second one is seen", x.contract(1, 2), 1);
    }

    private static void hiddenByTheLatestRocketAlone() {
        FireworkDeeds x = smoky(9);
        x.minute(1);
        x.light(0);
        Check.due("its latest one is elsewhere", x.sees(2, 1), 1);
        x.undo();
        Check.due("undone, it is there again", x.sees(2, 1), 0);
    }

    private static void seen(int powder, int fog, int cell, int due) {
        FireworkDeeds x = Check.bay("b30 " + fog + " 5;h0 " + powder + " 9 a;h" + cell + " 1 9 b;");
        Check.due("powder " + powder + ", fog " + fog + ", " + cell + " cells away", x.sees(1, 0), due);
    }

    private static void seenAtTheReachAndNoFarther() {
        seen(1, 0, 4, 1);
        seen(1, 0, 5, 0);
        seen(9, 0, 12, 1);
        seen(9, 0, 13, 0);
        seen(9, 20, 2, 1);
        seen(9, 20, 3, 0);
        FireworkDeeds left = Check.bay("b30 0 5;h29 1 9 a;h25 1 9 b;h24 1 9 d;");
        Check.due("to the left, at the reach", left.sees(1, 0), 1);
        Check.due("to the left, one farther", left.sees(2, 0), 0);
        left.wind(-1);
        Check.due("by the cell over which it is", left.sees(2, 0), 1);
        Twins.unchanged("not by itself", Twins::busy, x -> x.sees(1, 1), Check.UNKNOWN);
    }

    private static void fogIsCutByHalf() {
        seen(5, 1, 8, 1);
        seen(5, 1, 9, 0);
        seen(5, 2, 8, 0);
        seen(5, 2, 7, 1);
        seen(5, 3, 7, 1);
        seen(5, 4, 7, 0);
        seen(9, 19, 3, 1);
        seen(9, 19, 4, 0);
    }

    private static void reachOfNothingAndLess() {
        // the wind brings house 0's rocket right over house 1, and a cell aside of house 2
        for (int powder = 1; powder <= 9; powder++) {
            FireworkDeeds x = Check.bay("b30 20 10;h5 " + powder + " 9 a;h10 9 9 b;h11 9 9 d;");
            Check.due("right over it, powder " + powder, x.sees(1, 0), powder >= 7 ? 1 : 0);
            Check.due("a cell aside, powder " + powder, x.sees(2, 0), powder >= 8 ? 1 : 0);
        }
    }

    private static void cheapPowderIs1Or2() {
        for (int powder = 1; powder <= 9; powder++) {
            FireworkDeeds x = Check.bay("b9 0 5;h0 " + powder + " 9 a;h5 9 9 b;");
            Check.due("powder " + powder + " is read as", x.house(0, 7), powder <= 2 ? 1 : 0);
        }
    }

    private static void slurredToTheNextGreaterCell() {
        FireworkDeeds x = Check.bay("b9 0 5;h4 1 9 a;h8 1 9 b;h3 2 9 d;h6 1 9 e;h0 2 9 aa;h5 3 9 bb;");
        int[] due = {5, 1, 0, 1, 2, 5};
        for (int h = 0; h < due.length; h++) {
            Check.due("house " + h + " is read as", x.house(h, 7), due[h]);
        }
        Check.due("the only one is read as itself", Check.bay("b9 0 5;h0 1 1 a;").house(0, 7), 0);
    }

    private static void contractAtThisMinuteOrTheOneAhead() {
        for (int later = 0; later <= 3; later++) {
            FireworkDeeds x = Check.bay("b9 0 5;h0 9 9 a;h1 9 9 b;h2 9 9 d;");
            x.light(0);
            if (later > 0) {
                x.minute(later);
            }
            Check.due(later + " minutes later", x.light(1), later <= 1 ? 1 : 0);
            Check.due(later + " minutes later, contract", x.contract(0, 1), later <= 1 ? 1 : 0);
        }
        FireworkDeeds never = Check.bay("b9 0 5;h0 9 9 a;h1 9 9 b;h2 9 9 d;");
        Check.due("never signed is not signed a minute ahead of 0", never.light(0), 0);
    }

    private static void contractNeedsAThird() {
        FireworkDeeds two = Check.bay("b9 0 5;h0 9 9 a;h1 9 9 b;");
        two.light(0);
        Check.due("only two", two.light(1), 0);
        FireworkDeeds at = Check.bay("b30 0 5;h0 3 9 a;h1 3 9 b;h6 9 9 d;");
        at.light(0);
        Check.due("a third at the reach of the first", at.light(1), 1);
        FireworkDeeds beyond = Check.bay("b30 0 5;h0 3 9 a;h1 3 9 b;h7 9 9 d;");
        beyond.light(0);
        Check.due("one farther", beyond.light(1), 0);
        FireworkDeeds apart = Check.bay("b30 0 5;h4 3 9 a;h10 3 9 b;h0 9 9 d;h16 9 9 e;");
        apart.light(0);
        Check.due("one saw this, another that", apart.light(1), 0);
    }

    private static void contractNeedsAThirdThatIsNotRead() {
        FireworkDeeds asH = Check.bay("b9 0 5;h0 9 9 a;h1 2 9 b;h2 9 9 d;");
        asH.light(0);
        Check.due("the third is as whom h is read", asH.light(1), 0);
        FireworkDeeds asG = Check.bay("b9 0 5;h0 9 9 a;h1 2 9 b;h2 9 9 d;");
        asG.light(1);
        Check.due("the third is as whom g is read", asG.light(0), 0);
        FireworkDeeds dear = Check.bay("b9 0 5;h0 9 9 a;h1 3 9 b;h2 9 9 d;");
        dear.light(0);
        Check.due("it is read as itself, by powder 3", dear.light(1), 1);
        FireworkDeeds fourth = Check.bay("b9 0 5;h0 9 9 a;h1 2 9 b;h2 9 9 d;h3 9 9 e;");
        fourth.light(0);
        Check.due("a fourth sees both", fourth.light(1), 1);
        Check.due("it is not the lighter's", fourth.contract(0, 1), 0);
        Check.due("it is of the one as whom it is read", fourth.contract(0, 2), 1);
    }

    private static void contractOfUnlikeHouses() {
        FireworkDeeds x = Check.bay("b9 0 5;h0 9 9 a;h1 2 9 b;h2 9 9 d;h3 9 9 e;");
        x.light(2);
        Check.due("2, and 1 read as 2", x.light(1), 0);
        Check.due("none holds", x.told(8), 0);
        FireworkDeeds turned = Check.bay("b9 0 5;h0 9 9 a;h1 2 9 b;h2 9 9 d;h3 9 9 e;");
        turned.light(1);
        Check.due("1 read as 2, and 2", turned.light(2), 0);
        Check.due("none holds, turned", turned.told(8), 0);
    }

    private static void contractSeenBothTimes() {
        FireworkDeeds then = Check.bay("b9 0 5;h2 3 9 a;h3 9 9 b;h4 9 9 d;");
        then.fog(20);
        then.light(0);
        then.fog(0);
        Check.due("not seen when it was lit", then.light(1), 0);
        FireworkDeeds now = Check.bay("b9 0 5;h2 3 9 a;h3 3 9 b;h4 9 9 d;");
        now.light(0);
        now.fog(20);
        Check.due("not seen now", now.light(1), 0);
        FireworkDeeds both = Check.bay("b9 0 5;h2 3 9 a;h3 9 9 b;h4 9 9 d;");
        both.light(0);
        both.fog(20);
        Check.due("seen then, seen now", both.light(1), 1);
    }

    private static void contractCountedOnce() {
        // 1 and 2 are both read as 2, so that h has one contract by the two
        FireworkDeeds x = Check.bay("b9 0 5;h0 9 9 a;h1 2 9 b;h2 9 9 d;h3 9 9 e;");
        x.light(1);
        x.light(2);
        Check.due("two that are read alike", x.light(0), 1);
        Check.due("one holds", x.told(8), 1);
        x.minute(1);
        Check.due("it holds already", x.light(0), 0);
    }

    private static void contractForGood() {
        FireworkDeeds x = Check.bay("b9 0 5;h0 9 9 a;h1 9 9 b;h2 9 9 d;");
        x.light(0);
        x.light(1);
        x.minute(99);
        x.fog(20);
        x.light(0);
        Check.due("long ago, and not seen since", x.contract(1, 0), 1);
        Check.due("told(8)", x.told(8), 1);
    }

    private static void allContractsOfEight() {
        FireworkDeeds x = Check.bay(
            "b9 0 5;h0 9 9 a;h1 9 9 b;h2 9 9 c;h3 9 9 d;h4 9 9 e;h5 9 9 aa;h6 9 9 ab;h7 9 9 ca;");
        for (int h = 0; h < 8; h++) {
            Check.due("light(" + h + ")", x.light(h), h);
        }
        Check.due("all that there can be", x.told(8), 28);
        Check.due("conditional ones", x.told(9), 13);
        for (int h = 0; h < 8; h++) {
            for (int g = 0; g < 8; g++) {
                boolean green = h == 2 || h == 7 || g == 2 || g == 7;
                Check.due("contract(" + h + ", " + g + ")", x.contract(h, g), h == g ? Check.UNKNOWN : green ? 2 : 1);
            }
        }
    }

    private static void conditionalAsRead() {
        FireworkDeeds x = Check.bay("b9 0 5;h0 9 9 a;h1 2 9 c;h2 9 9 d;h3 2 9 e;h4 9 9 ac;h5 9 9 b;");
        Check.due("light(0)", x.light(0), 0);
        Check.due("a green one is read as another", x.light(1), 1);
        Check.due("no condition", x.contract(0, 2), 1);
        Check.due("none conditional", x.told(9), 0);
        Check.due("another is read as a green one: with 0, with 2", x.light(3), 2);
        Check.due("a condition", x.contract(0, 4), 2);
        Check.due("a condition, too", x.contract(4, 2), 2);
        Check.due("two conditional", x.told(9), 2);
    }

    private static void refused(String what, ToIntFunction<FireworkDeeds> call, int due) {
        Twins.unchanged(what, Twins::busy, call, due);
    }

    private static void minuteBounds() {
        for (int n : new int[] {0, -1, 100, 101, LEAST, MOST}) {
            refused("minute(" + n + ")", x -> x.minute(n), Check.OUTSIDE);
        }
        Twins.unchanged("no cells", FireworkDeeds::new, x -> x.minute(1), Check.NOT);
        Twins.unchanged("no cells, 99", FireworkDeeds::new, x -> x.minute(99), Check.NOT);
        FireworkDeeds x = Check.bay("b2 0 5;");
        Check.due("minutes from 0", x.told(7), 0);
        Check.due("minute(1)", x.minute(1), 1);
        Check.due("minute(99)", x.minute(99), 100);
    }

    private static void driftBounds() {
        for (int n : new int[] {0, -1, 100, 101, LEAST, MOST}) {
            refused("drift(" + n + ")", x -> x.drift(n), Check.OUTSIDE);
        }
        Twins.unchanged("no cells", FireworkDeeds::new, x -> x.drift(1), Check.NOT);
        Twins.unchanged("no cells, 99", FireworkDeeds::new, x -> x.drift(99), Check.NOT);
        FireworkDeeds x = Check.bay("b2 0 5;");
        Check.due("drift(1)", x.drift(1), 1);
        Check.due("drift(99)", x.drift(99), 100);
        Check.due("two can be undone, not a hundred", x.told(12), 2);
    }

    /** So late takes more than the 512 calls that are promised, but the class is to keep to the bound nevertheless. */
    private static FireworkDeeds late(int minutes) {
        FireworkDeeds x = Check.bay("b2 0 5;");
        for (int left = minutes; left > 0; left -= 99) {
            x.minute(Math.min(99, left));
        }
        return x;
    }

    private static void minutesAbove90000() {
        Check.due("told(7)", late(90000).told(7), 90000);
        Check.due("minute(99) at 90000", late(90000).minute(99), 90099);
        Check.due("drift(1) at 90000", late(90000).drift(1), 90001);
        for (int minutes : new int[] {90001, 90099}) {
            Supplier<FireworkDeeds> later = () -> late(minutes);
            Twins.unchanged("minute(1) at " + minutes, later, x -> x.minute(1), Check.FULL);
            Twins.unchanged("drift(1) at " + minutes, later, x -> x.drift(1), Check.FULL);
            Twins.unchanged("minute(0) at " + minutes, later, x -> x.minute(0), Check.OUTSIDE);
            Twins.unchanged("drift(100) at " + minutes, later, x -> x.drift(100), Check.OUTSIDE);
        }
        FireworkDeeds back = late(90001);
        back.undo();
        Check.due("undone, minutes pass again", back.minute(1), 909 * 99 + 1);
    }

    private static void fogBounds() {
        for (int f : new int[] {-1, 21, LEAST, MOST}) {
            refused("fog(" + f + ")", x -> x.fog(f), Check.OUTSIDE);
        }
        Twins.unchanged("no cells", FireworkDeeds::new, x -> x.fog(0), Check.NOT);
        Twins.unchanged("no cells, 20", FireworkDeeds::new, x -> x.fog(20), Check.NOT);
        FireworkDeeds x = Check.bay("b2 7 5;");
        Check.due("fog(0)", x.fog(0), 7);
        Check.due("fog(20)", x.fog(20), 0);
        Check.due("fog(20) again", x.fog(20), 20);
        Check.due("as it was, too, can be undone", x.told(12), 3);
    }

    private static void windBounds() {
        for (int d : new int[] {-6, 6, LEAST, MOST}) {
            refused("wind(" + d + ")", x -> x.wind(d), Check.OUTSIDE);
        }
        Twins.unchanged("no cells", FireworkDeeds::new, x -> x.wind(0), Check.NOT);
        Twins.unchanged("no cells, -5", FireworkDeeds::new, x -> x.wind(-5), Check.NOT);
        FireworkDeeds x = Check.bay("b2 7 5;");
        Check.due("wind(-5)", x.wind(-5), 5);
        Check.due("it is below 0", x.told(2), -5);
        Check.due("wind(5)", x.wind(5), 0);
        Check.due("wind(5) again", x.wind(5), 10);
        Check.due("as it was, too, can be undone", x.told(12), 3);
    }

    private static void undoOfNone() {
        Twins.unchanged("undo(), new", FireworkDeeds::new, x -> x.undo(), Check.NOT);
        Twins.unchanged("undo(), nothing done", maker("b2 0 5;"), x -> x.undo(), Check.NOT);
        Twins.unchanged("undo(), all undone", () -> {
            FireworkDeeds x = Twins.busy();
            x.undo();
            x.undo();
            x.undo();
            return x;
        }, x -> x.undo(), Check.NOT);
    }

    private static void undone(String what, ToIntFunction<FireworkDeeds> call) {
        Twins.alike(what + " undone", () -> {
            FireworkDeeds x = Twins.busy();
            call.applyAsInt(x);
            Check.due(what + ", more can be undone", x.told(12), 4);
            Check.due(what + ", undo()", x.undo(), 3);
            x.seed(99);
            return x;
        }, Twins::busy);
    }

    private static void undoOfEachKind() {
        undone("light", x -> x.light(3));
        undone("minute", x -> x.minute(99));
        undone("fog", x -> x.fog(20));
        undone("wind", x -> x.wind(-5));
        undone("drift", x -> x.drift(99));
        Twins.alike("five undone", () -> {
            FireworkDeeds x = Twins.busy();
            x.light(3);
            x.minute(2);
            x.light(2);
            x.fog(0);
            x.light(1);
            for (int left = 7; left >= 3; left--) {
                Check.due("undo() of five", x.undo(), left);
            }
            return x;
        }, Twins::busy);
    }

    private static void undoOfWhoSawIt() {
        FireworkDeeds seen = Check.bay("b9 0 5;h2 3 9 a;h3 9 9 b;h4 9 9 d;");
        seen.light(0);
        seen.minute(1);
        seen.fog(20);
        seen.light(0);
        seen.undo();
        seen.undo();
        Check.due("the first was seen, the second, undone, was not", seen.light(1), 1);
        FireworkDeeds unseen = Check.bay("b9 20 5;h2 3 9 a;h3 9 9 b;h4 9 9 d;");
        unseen.light(0);
        unseen.minute(1);
        unseen.fog(0);
        unseen.light(0);
        unseen.undo();
        Check.due("the first was not seen, the second, undone, was", unseen.light(1), 0);
    }

    private static void undoLeavesTheSeed() {
        FireworkDeeds x = Check.bay("b2 0 5;");
        x.drift(1);
        int drawn = x.seed(0);
        x.seed(drawn);
        x.undo();
        Check.due("drawn, undone", x.seed(5), drawn);
        x.minute(1);
        x.undo();
        Check.due("set, undone", x.seed(0), 5);
    }

    private static FireworkDeeds done(int many) {
        FireworkDeeds x = Check.bay("b30 0 5;");
        for (int i = 0; i < many; i++) {
            x.minute(i + 1);
        }
        return x;
    }

    private static int minutesOf(int many) {
        return many * (many + 1) / 2;
    }

    private static void undoTwentyAtMost() {
        for (int many : new int[] {1, 19, 20, 21, 22, 40, 41}) {
            FireworkDeeds x = done(many);
            int kept = Math.min(many, 20);
            Check.due("told(12) of " + many, x.told(12), kept);
            for (int left = kept - 1; left >= 0; left--) {
                Check.due("undo() of " + many, x.undo(), left);
                Check.due("minutes, undone of " + many, x.told(7), minutesOf(many - kept + left));
            }
            Check.due("undo() of " + many + ", the oldest are lost", x.undo(), Check.NOT);
        }
        Twins.unchanged("refused with twenty", () -> done(20), x -> x.minute(0), Check.OUTSIDE);
        FireworkDeeds lost = done(20);
        lost.minute(99);
        Check.due("the oldest stays lost", lost.undo(), 19);
    }

    private static void undoRoundAndRound() {
        FireworkDeeds x = Check.bay("b30 0 5;");
        for (int round = 0; round < 9; round++) {
            for (int i = 0; i < 13; i++) {
                x.minute(2);
            }
            int before = x.told(7);
            int kept = x.told(12);
            for (int i = 1; i <= 6; i++) {
                Check.due("undo() in round " + round, x.undo(), kept - i);
                Check.due("minutes in round " + round, x.told(7), before - 2 * i);
            }
        }
    }

    private static void undoIsNotUndone() {
        FireworkDeeds x = done(3);
        x.undo();
        Check.due("the next undo() goes on", x.undo(), 1);
        Check.due("minutes", x.told(7), 1);
        x.minute(50);
        Check.due("a new one behind what is left", x.told(12), 2);
        x.undo();
        Check.due("minutes again", x.told(7), 1);
    }
}
