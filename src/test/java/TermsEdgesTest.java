import java.util.function.Supplier;
import java.util.function.ToIntFunction;

/** The edges of 'Terms': which refusal comes first, houses, images and sets that there are not, one twice. */
public final class TermsEdgesTest {
    private static final int LEAST = Integer.MIN_VALUE;
    private static final int MOST = Integer.MAX_VALUE;
    private static final String EIGHT =
        "b30 0 5;h0 9 9 a;h3 9 9 b;h6 9 9 c;h9 9 9 d;h12 9 9 e;h15 9 9 aa;h18 9 9 bb;h21 9 9 cc;";

    public static void main(String[] args) {
        refusalsAreFarBelow();
        housesThatThereAreNot();
        housesWithoutCells();
        oneTwice();
        bitsThatThereAreNot();
        bitsWithoutHouses();
        bitsOfEightHouses();
        imagesThatThereAreNot();
        unknownAheadOfOutside();
        unknownAheadOfNot();
        unknownAheadOfFull();
        outsideAheadOfNot();
        outsideAheadOfFull();
        triedChangesNothing();
        Check.end();
    }

    private static void busy(String what, ToIntFunction<FireworkDeeds> call, int due) {
        Twins.unchanged(what, Twins::busy, call, due);
    }

    private static void refusalsAreFarBelow() {
        Check.due("UNKNOWN", FireworkDeeds.UNKNOWN, -1000000001);
        Check.due("OUTSIDE", FireworkDeeds.OUTSIDE, -1000000002);
        Check.due("NOT", FireworkDeeds.NOT, -1000000003);
        Check.due("FULL", FireworkDeeds.FULL, -1000000004);
        Check.due("NONE", FireworkDeeds.NONE, -1);
    }

    private static void housesThatThereAreNot() {
        unknownHouses(Twins::busy, 4);
        Supplier<FireworkDeeds> eight = () -> Check.bay(EIGHT);
        unknownHouses(eight, 8);
        Check.due("the last house of eight", Check.bay(EIGHT).house(7, 0), 21);
        Check.due("the last house of four", Twins.busy().house(3, 0), 9);
        Check.due("the first house", Twins.busy().house(0, 0), 2);
    }

    private static void unknownHouses(Supplier<FireworkDeeds> maker, int houses) {
        for (int h : new int[] {-1, houses, houses + 1, 31, 32, LEAST, MOST}) {
            unknownHouse(maker, h);
        }
    }

    private static void unknownHouse(Supplier<FireworkDeeds> maker, int h) {
        Twins.unchanged("house(" + h + ", 0)", maker, x -> x.house(h, 0), Check.UNKNOWN);
        Twins.unchanged("sees(" + h + ", 0)", maker, x -> x.sees(h, 0), Check.UNKNOWN);
        Twins.unchanged("sees(0, " + h + ")", maker, x -> x.sees(0, h), Check.UNKNOWN);
        Twins.unchanged("contract(" + h + ", 0)", maker, x -> x.contract(h, 0), Check.UNKNOWN);
        Twins.unchanged("contract(0, " + h + ")", maker, x -> x.contract(0, h), Check.UNKNOWN);
        Twins.unchanged("light(" + h + ")", maker, x -> x.light(h), Check.UNKNOWN);
        Twins.unchanged("signers(" + h + ")", maker, x -> x.signers(h), Check.UNKNOWN);
        Twins.unchanged("cross(" + h + ", 0)", maker, x -> x.cross(h, 0), Check.UNKNOWN);
        Twins.unchanged("cross(0, " + h + ")", maker, x -> x.cross(0, h), Check.UNKNOWN);
        Twins.unchanged("forged(" + h + ", 1, 0)", maker, x -> x.forged(h, 1, 0), Check.UNKNOWN);
        Twins.unchanged("partner(" + h + ")", maker, x -> x.partner(h), Check.UNKNOWN);
        Twins.unchanged("write(" + h + ", 0, true)", maker, x -> x.write(h, 0, true), Check.UNKNOWN);
        Twins.unchanged("write(0, " + h + ", false)", maker, x -> x.write(0, h, false), Check.UNKNOWN);
    }

    private static void housesWithoutCells() {
        unknownHouse(FireworkDeeds::new, 0);
        unknownHouse(FireworkDeeds::new, 1);
        unknownHouse(() -> Check.bay("b2 0 0;"), 0);
    }

    private static void oneTwice() {
        for (int h : new int[] {0, 3, 4, -1}) {
            busy("sees twice " + h, x -> x.sees(h, h), Check.UNKNOWN);
            busy("contract twice " + h, x -> x.contract(h, h), Check.UNKNOWN);
            busy("cross twice " + h, x -> x.cross(h, h), Check.UNKNOWN);
            busy("write twice " + h, x -> x.write(h, h, true), Check.UNKNOWN);
        }
    }

    private static void bitsThatThereAreNot() {
        for (int set : new int[] {16, 17, 31, 32, 1 << 30, MOST, -1, -16, LEAST, LEAST + 1}) {
            unknownSet(Twins::busy, set);
        }
        busy("all bits of four: order", x -> x.order(15, 4), Check.NONE);
        busy("all bits of four: treaty", x -> x.treaty(15), 3 + 5);
        busy("all bits of four: damp", x -> x.damp(15), 640000000);
    }

    private static void unknownSet(Supplier<FireworkDeeds> maker, int set) {
        Twins.unchanged("order(" + set + ", 0)", maker, x -> x.order(set, 0), Check.UNKNOWN);
        Twins.unchanged("treaty(" + set + ")", maker, x -> x.treaty(set), Check.UNKNOWN);
        Twins.unchanged("damp(" + set + ")", maker, x -> x.damp(set), Check.UNKNOWN);
    }

    private static void bitsWithoutHouses() {
        for (int set : new int[] {1, 2, 255, -1, LEAST, MOST}) {
            unknownSet(FireworkDeeds::new, set);
        }
        Twins.unchanged("order of none", FireworkDeeds::new, x -> x.order(0, 0), Check.NONE);
        Twins.unchanged("treaty of none", FireworkDeeds::new, x -> x.treaty(0), 0);
        Twins.unchanged("damp of none", FireworkDeeds::new, x -> x.damp(0), 1000000000);
    }

    private static void bitsOfEightHouses() {
        Supplier<FireworkDeeds> eight = () -> Check.bay(EIGHT);
        for (int set : new int[] {256, 257, 511, -1, LEAST, MOST}) {
            unknownSet(eight, set);
        }
        Twins.unchanged("eight are too many to order, but known", eight, x -> x.order(255, 0), Check.OUTSIDE);
        Twins.unchanged("treaty of eight", eight, x -> x.treaty(255), 9 + 6 + 3 + 0 + 0 + 3 + 6 + 9);
        Twins.unchanged("damp of eight", eight, x -> x.damp(255), 729000000);
    }

    private static void imagesThatThereAreNot() {
        for (int i : new int[] {-1, 2, LEAST, MOST}) {
            busy("keep(" + i + ")", x -> x.keep(i), Check.UNKNOWN);
            busy("goBack(" + i + ")", x -> x.goBack(i), Check.UNKNOWN);
        }
        for (int i = 0; i <= 1; i++) {
            Check.due("keep(" + i + ")", Twins.busy().keep(i), 1);
        }
        Check.due("goBack(1)", Twins.busy().goBack(1), 1);
    }

    private static void unknownAheadOfOutside() {
        busy("house(4, 8)", x -> x.house(4, 8), Check.UNKNOWN);
        busy("house(-1, -1)", x -> x.house(-1, -1), Check.UNKNOWN);
        busy("forged(4, 0, 0)", x -> x.forged(4, 0, 0), Check.UNKNOWN);
        busy("forged(4, 1, 2)", x -> x.forged(4, 1, 2), Check.UNKNOWN);
        busy("forged(-1, 6, -1)", x -> x.forged(-1, 6, -1), Check.UNKNOWN);
        Supplier<FireworkDeeds> seven = () -> Check.bay(EIGHT.substring(0, EIGHT.lastIndexOf('h')));
        Twins.unchanged("order of eight, seven there", seven, x -> x.order(255, 0), Check.UNKNOWN);
        Twins.unchanged("order of seven", seven, x -> x.order(127, 0), Check.OUTSIDE);
    }

    private static void unknownAheadOfNot() {
        Twins.unchanged("light(0), no cells", FireworkDeeds::new, x -> x.light(0), Check.UNKNOWN);
        Twins.unchanged("goBack(2), nothing kept", FireworkDeeds::new, x -> x.goBack(2), Check.UNKNOWN);
        Twins.unchanged("goBack(-1), nothing kept", FireworkDeeds::new, x -> x.goBack(-1), Check.UNKNOWN);
    }

    private static void unknownAheadOfFull() {
        Supplier<FireworkDeeds> full = () -> {
            FireworkDeeds x = Twins.busy();
            for (int i = 2; i < 15; i++) {
                x.write(2, 3, false);
            }
            return x;
        };
        Twins.unchanged("write(0, 4), a full book", full, x -> x.write(0, 4, true), Check.UNKNOWN);
        Twins.unchanged("write(-1, 0), a full book", full, x -> x.write(-1, 0, true), Check.UNKNOWN);
        Twins.unchanged("write(1, 1), a full book", full, x -> x.write(1, 1, true), Check.UNKNOWN);
        Twins.unchanged("write(0, 1), a full book", full, x -> x.write(0, 1, true), Check.FULL);
    }

    private static void outsideAheadOfNot() {
        for (int n : new int[] {0, 100, -1, LEAST, MOST}) {
            Twins.unchanged("minute(" + n + "), no cells", FireworkDeeds::new, x -> x.minute(n), Check.OUTSIDE);
            Twins.unchanged("drift(" + n + "), no cells", FireworkDeeds::new, x -> x.drift(n), Check.OUTSIDE);
        }
        for (int f : new int[] {-1, 21, LEAST, MOST}) {
            Twins.unchanged("fog(" + f + "), no cells", FireworkDeeds::new, x -> x.fog(f), Check.OUTSIDE);
        }
        for (int d : new int[] {-6, 6, LEAST, MOST}) {
            Twins.unchanged("wind(" + d + "), no cells", FireworkDeeds::new, x -> x.wind(d), Check.OUTSIDE);
        }
    }

    private static void outsideAheadOfFull() {
        Supplier<FireworkDeeds> manyDucks = () -> {
            FireworkDeeds x = Twins.busy();
            for (int i = 2; i < 6; i++) {
                x.duck(i, i);
            }
            return x;
        };
        Twins.unchanged("duck(-1, 0), six told", manyDucks, x -> x.duck(-1, 0), Check.OUTSIDE);
        Twins.unchanged("duck(0, 12), six told", manyDucks, x -> x.duck(0, 12), Check.OUTSIDE);
        Twins.unchanged("duck(0, 0), six told", manyDucks, x -> x.duck(0, 0), Check.FULL);
        Supplier<FireworkDeeds> manyLetters = () -> {
            FireworkDeeds x = Twins.busy();
            for (int i = x.told(6); i < 230; i++) {
                x.feed(' ');
            }
            return x;
        };
        Twins.unchanged("feed(-1), a full text", manyLetters, x -> x.feed(-1), Check.OUTSIDE);
        Twins.unchanged("feed(256), a full text", manyLetters, x -> x.feed(256), Check.OUTSIDE);
        Twins.unchanged("feed(0), a full text", manyLetters, x -> x.feed(0), Check.FULL);
    }

    private static void triedChangesNothing() {
        busy("fault()", x -> x.fault(), 7);
        busy("told(2)", x -> x.told(2), 1);
        busy("house(3, 7)", x -> x.house(3, 7), 3);
        busy("sees(1, 0)", x -> x.sees(1, 0), 1);
        busy("contract(0, 1)", x -> x.contract(0, 1), 2);
        busy("order(3, 1)", x -> x.order(3, 1), 1);
        busy("signers(3)", x -> x.signers(3), 8);
        busy("farShore(1)", x -> x.farShore(1), 2 + 4 + 8);
        busy("cross(0, 1)", x -> x.cross(0, 1), Check.NONE);
        busy("treaty(3)", x -> x.treaty(3), 0);
        busy("forged(1, 1, 0)", x -> x.forged(1, 1, 0), 0);
        busy("damp(1)", x -> x.damp(1), 800000000);
        busy("partner(0)", x -> x.partner(0), 1);
        busy("lit(-1)", x -> x.lit(-1), 1);
        busy("judge()", x -> x.judge(), 1);
    }
}
