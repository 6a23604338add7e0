import java.util.function.Supplier;

/** The edges of what was seen, of draws and of images: promises 23 to 30. */
public final class SeenEdgesTest {
    private static final int LEAST = Integer.MIN_VALUE;
    private static final int MOST = Integer.MAX_VALUE;
    private static final String THREE = "b9 0 5;h0 9 9 a;h1 9 9 b;h2 9 9 c;";

    public static void main(String[] args) {
        duckMinutes();
        duckCells();
        duckWithoutCells();
        duckSixAtMost();
        litOfNothing();
        litNotSoMany();
        litHeldWithinTheCells();
        waysOfNothing();
        waysNoHouseTwiceAtOneMinute();
        waysAtMost();
        writeFifteenAtMost();
        tearOfNothing();
        tearOfAll();
        tearLeavesTheNight();
        judgeOfNothing();
        judgeTheFirst();
        judgeTheTwoThatAreTold();
        seedBounds();
        seedWrapsRound();
        drawsWithinTheirBounds();
        driftDrawsAheadOfEachMinute();
        keepAndGoBackBounds();
        goBackToNothingKept();
        keepLeavesAllButUndo();
        imageStays();
        imageOfWhoSawIt();
        imagesApart();
        imagesGoneByBay();
        imageAfterMuch();
        imagesWithoutCells();
        Check.end();
    }

    private static void duckMinutes() {
        for (int minute : new int[] {-1, 1000, LEAST, MOST}) {
            Twins.unchanged("duck(" + minute + ", 0)", Twins::busy, x -> x.duck(minute, 0), Check.OUTSIDE);
        }
        Check.due("duck(0, 0)", Twins.busy().duck(0, 0), 3);
        Check.due("duck(999, 0)", Twins.busy().duck(999, 0), 3);
    }

    private static void duckCells() {
        for (int cell : new int[] {-1, 12, 29, LEAST, MOST}) {
            Twins.unchanged("duck(0, " + cell + ")", Twins::busy, x -> x.duck(0, cell), Check.OUTSIDE);
        }
        Check.due("the last of 12", Twins.busy().duck(0, 11), 3);
        Check.due("the last of 2", Check.bay("b2 0 5;").duck(0, 1), 1);
        Check.due("beyond 2", Check.bay("b2 0 5;").duck(0, 2), Check.OUTSIDE);
        Check.due("the last of 30", Check.bay("b30 0 5;").duck(0, 29), 1);
        Check.due("beyond 30", Check.bay("b30 0 5;").duck(0, 30), Check.OUTSIDE);
    }

    private static void duckWithoutCells() {
        Twins.unchanged("no cell 0", FireworkDeeds::new, x -> x.duck(0, 0), Check.OUTSIDE);
        Twins.unchanged("no cell 29", FireworkDeeds::new, x -> x.duck(999, 29), Check.OUTSIDE);
    }

    private static FireworkDeeds withDucks(int many) {
        FireworkDeeds x = Check.bay(THREE);
        for (int i = 1; i <= many; i++) {
            Check.due("duck " + i, x.duck(i, i), i);
        }
        return x;
    }

    private static void duckSixAtMost() {
        Check.due("told(10)", withDucks(6).told(10), 6);
        Twins.unchanged("a seventh", () -> withDucks(6), x -> x.duck(7, 7), Check.FULL);
        FireworkDeeds x = withDucks(6);
        x.tear();
        Check.due("torn, there is room again", x.duck(0, 0), 1);
    }

    private static void litOfNothing() {
        Twins.unchanged("lit(0) of no duck", () -> Check.bay(THREE), x -> x.lit(0), Check.NONE);
        Twins.unchanged("lit(0), new", FireworkDeeds::new, x -> x.lit(0), Check.NONE);
    }

    private static void litNotSoMany() {
        for (int k : new int[] {LEAST, -2, 6, 7, MOST}) {
            Twins.unchanged("lit(" + k + ")", () -> withDucks(6), x -> x.lit(k), Check.NONE);
        }
        FireworkDeeds x = Check.bay(THREE);
        x.duck(0, 1);
        x.duck(0, 2);
        x.duck(0, 3);
        Check.due("the first", x.lit(0), 2);
        Check.due("the last", x.lit(2), 0);
        Check.due("one behind the last", x.lit(3), Check.NONE);
    }

    private static void litHeldWithinTheCells() {
        FireworkDeeds x = Check.bay("b9 0 10;h2 1 1 a;h3 1 1 b;h4 1 1 c;h8 1 1 d;");
        x.duck(0, 8);
        x.duck(0, 7);
        x.duck(0, 0);
        Check.due("at the last cell", x.lit(0), 2 + 4 + 8);
        Check.due("the one ahead of it", x.lit(1), 1);
        x.wind(-4);
        Check.due("at the first cell", x.lit(2), 1 + 2 + 4);
    }

    private static void waysOfNothing() {
        Twins.unchanged("no duck", () -> Check.bay(THREE), x -> x.lit(-1), 1);
        Twins.unchanged("no cells", FireworkDeeds::new, x -> x.lit(-1), 1);
        FireworkDeeds x = Check.bay(THREE);
        x.duck(0, 0);
        x.duck(0, 8);
        Check.due("nobody is there", x.lit(-1), 0);
    }

    private static void waysNoHouseTwiceAtOneMinute() {
        FireworkDeeds x = Check.bay("b9 0 10;h4 1 1 a;h5 1 1 b;h0 1 1 c;");
        x.duck(7, 8);
        Check.due("two", x.lit(-1), 2);
        x.duck(7, 8);
        Check.due("both, in either order", x.lit(-1), 2);
        x.duck(7, 5);
        Check.due("a third one elsewhere", x.lit(-1), 2);
        x.duck(8, 8);
        Check.due("at the next minute again", x.lit(-1), 4);
        x.duck(7, 8);
        Check.due("three of two", x.lit(-1), 0);
    }

    private static void waysAtMost() {
        FireworkDeeds x = Check.bay("b6 0 10;h0 1 1 a;h1 1 1 b;h2 1 1 c;h3 1 1 d;h4 1 1 e;h5 1 1 aa;");
        for (int i = 0; i < 6; i++) {
            x.duck(999 - i, 5);
        }
        Check.due("six of six, six times", x.lit(-1), 46656);
        x.tear();
        for (int i = 0; i < 6; i++) {
            x.duck(999, 5);
        }
        Check.due("six of six at one minute", x.lit(-1), 720);
    }

    private static FireworkDeeds withEntries(int many) {
        FireworkDeeds x = Check.bay(THREE);
        for (int i = 1; i <= many; i++) {
            Check.due("write " + i, x.write(i % 3, (i + 1) % 3, false), i);
        }
        return x;
    }

    private static void writeFifteenAtMost() {
        Check.due("told(11)", withEntries(15).told(11), 15);
        Check.due("the fifteenth", withEntries(14).write(0, 1, true), 15);
        Twins.unchanged("a sixteenth", () -> withEntries(15), x -> x.write(0, 1, true), Check.FULL);
        FireworkDeeds x = withEntries(15);
        x.tear();
        Check.due("torn, there is room again", x.write(0, 1, true), 1);
    }

    private static void tearOfNothing() {
        Twins.unchanged("new tear()", FireworkDeeds::new, x -> x.tear(), 0);
        Twins.unchanged("tear(), nothing told", () -> Check.bay(THREE), x -> x.tear(), 0);
    }

    private static void tearOfAll() {
        FireworkDeeds x = withEntries(15);
        for (int i = 0; i < 6; i++) {
            x.duck(0, 0);
        }
        Check.due("tear() of all", x.tear(), 21);
        Check.due("no duck", x.told(10), 0);
        Check.due("no entry", x.told(11), 0);
        Check.due("tear() again", x.tear(), 0);
        x.duck(0, 0);
        Check.due("tear() of one duck", x.tear(), 1);
        x.write(0, 1, true);
        Check.due("tear() of one entry", x.tear(), 1);
    }

    private static void tearLeavesTheNight() {
        Twins.alike("torn, told again", () -> {
            FireworkDeeds x = Twins.busy();
            Check.due("tear()", x.tear(), 4);
            x.duck(3, 6);
            x.duck(3, 9);
            x.write(0, 1, true);
            x.write(0, 3, true);
            return x;
        }, Twins::busy);
    }

    private static void judgeOfNothing() {
        Twins.unchanged("new judge()", FireworkDeeds::new, x -> x.judge(), Check.NONE);
        Twins.unchanged("an empty book", () -> Check.bay(THREE), x -> x.judge(), Check.NONE);
        Twins.unchanged("all as told", () -> withEntries(15), x -> x.judge(), Check.NONE);
    }

    private static void judgeTheFirst() {
        for (int first : new int[] {0, 1, 13, 14}) {
            FireworkDeeds x = Check.bay(THREE);
            for (int i = 0; i < 15; i++) {
                x.write(1, 0, i >= first);
            }
            Check.due("wrong from " + first, x.judge(), first);
            x.light(0);
            x.light(1);
            Check.due("as it holds now, wrong from " + first, x.judge(), first == 0 ? Check.NONE : 0);
        }
        FireworkDeeds conditional = Check.bay(THREE);
        conditional.light(0);
        conditional.light(2);
        conditional.write(0, 2, true);
        Check.due("a conditional one holds", conditional.judge(), Check.NONE);
    }

    private static void judgeTheTwoThatAreTold() {
        for (int a = 0; a < 4; a++) {
            for (int b = 0; b < 4; b++) {
                if (a != b) {
                    FireworkDeeds x = Check.bay("b9 0 5;h0 9 9 a;h1 9 9 b;h2 9 9 c;h3 9 9 d;");
                    x.light(3);
                    x.light(2);
                    boolean holds = a + b == 5;
                    x.write(a, b, holds);
                    Check.due("of 2 and 3 alone: " + a + " " + b, x.judge(), Check.NONE);
                    x.write(a, b, !holds);
                    Check.due("of 2 and 3 alone, told wrong: " + a + " " + b, x.judge(), 1);
                }
            }
        }
    }

    private static void seedBounds() {
        for (int v : new int[] {-1, -2, LEAST}) {
            Twins.unchanged("seed(" + v + ")", Twins::busy, x -> x.seed(v), Check.OUTSIDE);
        }
        FireworkDeeds x = new FireworkDeeds();
        Check.due("0 at first", x.seed(2147483647), 0);
        Check.due("the greatest", x.seed(2147483646), 2147483647);
        Check.due("one less", x.seed(0), 2147483646);
        Check.due("the least", x.seed(1), 0);
    }

    /** The seed after one draw, with all its figures. */
    private static long drawn(long seed) {
        return java.math.BigInteger.valueOf(seed).multiply(java.math.BigInteger.valueOf(1103515245L))
            .add(java.math.BigInteger.valueOf(12345L)).mod(java.math.BigInteger.ONE.shiftLeft(31)).longValue();
    }

    private static void seedWrapsRound() {
        for (long seed : new long[] {0, 1, 2, 65535, 65536, 1073741823, 1073741824, 2147483646, 2147483647}) {
            FireworkDeeds x = Check.bay("b9 7 8;");
            x.seed((int) seed);
            x.drift(1);
            long first = drawn(seed);
            long second = drawn(first);
            long kind = first / 65536 % 3;
            Check.due("fog, from " + seed, x.told(1), kind == 0 ? second / 65536 % 21 : 7);
            Check.due("wind, from " + seed, x.told(2), kind == 1 ? second / 65536 % 11 - 5 : 3);
            Check.due("the seed, from " + seed, x.seed(0), kind == 2 ? first : second);
        }
    }

    private static void drawsWithinTheirBounds() {
        boolean[] fogs = new boolean[21];
        boolean[] winds = new boolean[11];
        for (int start = 0; start < 4; start++) {
            FireworkDeeds x = Check.bay("b9 0 5;");
            x.seed(start * 1000);
            for (int i = 0; i < 150; i++) {
                x.drift(1);
                int fog = x.told(1);
                int wind = x.told(2) + 5;
                Check.due("fog within 0 .. 20", fog >= 0 && fog <= 20 ? 1 : 0, 1);
                Check.due("wind within -5 .. 5", wind >= 0 && wind <= 10 ? 1 : 0, 1);
                fogs[fog] = true;
                winds[wind] = true;
            }
        }
        for (int i = 0; i < 21; i++) {
            Check.due("fog " + i + " comes", fogs[i] ? 1 : 0, 1);
        }
        for (int i = 0; i < 11; i++) {
            Check.due("wind " + (i - 5) + " comes", winds[i] ? 1 : 0, 1);
        }
    }

    private static void driftDrawsAheadOfEachMinute() {
        Twins.alike("99 at once, or one by one", () -> {
            FireworkDeeds x = Twins.busy();
            x.drift(99);
            x.keep(0);
            return x;
        }, () -> {
            FireworkDeeds x = Twins.busy();
            for (int i = 0; i < 99; i++) {
                x.drift(1);
            }
            x.keep(0);
            return x;
        });
    }

    private static void keepAndGoBackBounds() {
        for (int i : new int[] {-1, 2, 3, LEAST, MOST}) {
            Twins.unchanged("keep(" + i + ")", Twins::busy, x -> x.keep(i), Check.UNKNOWN);
            Twins.unchanged("goBack(" + i + ")", Twins::busy, x -> x.goBack(i), Check.UNKNOWN);
        }
        for (int i = 0; i <= 1; i++) {
            FireworkDeeds x = Twins.busy();
            Check.due("keep(" + i + ")", x.keep(i), 1);
            Check.due("goBack(" + i + ")", x.goBack(i), 1);
        }
    }

    private static void goBackToNothingKept() {
        Twins.unchanged("0, with 1 kept", Twins::busy, x -> x.goBack(0), Check.NOT);
        Twins.unchanged("0, new", FireworkDeeds::new, x -> x.goBack(0), Check.NOT);
        Twins.unchanged("1, new", FireworkDeeds::new, x -> x.goBack(1), Check.NOT);
        Twins.unchanged("1, with 0 kept", () -> {
            FireworkDeeds x = Check.bay(THREE);
            x.keep(0);
            x.minute(1);
            return x;
        }, x -> x.goBack(1), Check.NOT);
    }

    private static void keepLeavesAllButUndo() {
        FireworkDeeds x = Twins.busy();
        Check.due("three can be undone", x.told(12), 3);
        x.keep(0);
        Check.due("nothing can be undone", x.told(12), 0);
        Check.due("undo()", x.undo(), Check.NOT);
        x.minute(1);
        Check.due("one can be undone", x.told(12), 1);
        x.goBack(0);
        Check.due("nothing can be undone", x.told(12), 0);
        Check.due("undo() behind goBack()", x.undo(), Check.NOT);
        Supplier<FireworkDeeds> kept = () -> {
            FireworkDeeds y = Twins.busy();
            y.keep(0);
            return y;
        };
        Twins.unchanged("keep(0) again", kept, y -> y.keep(0), 1);
        Twins.unchanged("goBack(0) at once", kept, y -> y.goBack(0), 1);
    }

    private static void imageStays() {
        Supplier<FireworkDeeds> kept = () -> {
            FireworkDeeds x = Twins.busy();
            x.keep(0);
            return x;
        };
        for (int times = 1; times <= 3; times++) {
            int many = times;
            Twins.alike("gone back " + times + " times", () -> {
                FireworkDeeds x = kept.get();
                for (int i = 0; i < many; i++) {
                    x.light(3);
                    x.drift(5);
                    x.seed(i);
                    x.light(2);
                    x.goBack(0);
                }
                return x;
            }, kept);
        }
    }

    private static void imageOfWhoSawIt() {
        FireworkDeeds x = Check.bay("b9 0 5;h2 3 9 a;h3 9 9 b;h4 9 9 d;");
        x.light(0);
        x.minute(1);
        x.keep(0);
        x.fog(20);
        x.light(0);
        x.keep(1);
        x.goBack(0);
        Check.due("image 0: seen", x.light(1), 1);
        x.goBack(1);
        x.fog(0);
        Check.due("image 1: not seen", x.light(1), 0);
    }

    private static void imagesApart() {
        FireworkDeeds x = Check.bay(THREE);
        x.minute(1);
        x.keep(0);
        x.minute(1);
        x.keep(1);
        x.minute(1);
        x.goBack(0);
        Check.due("image 0", x.told(7), 1);
        x.goBack(1);
        Check.due("image 1", x.told(7), 2);
        x.keep(0);
        x.minute(5);
        x.goBack(0);
        Check.due("image 0, kept anew", x.told(7), 2);
    }

    private static void imagesGoneByBay() {
        FireworkDeeds x = Check.bay(THREE);
        x.keep(0);
        x.keep(1);
        x.feed('x');
        x.bay();
        Check.due("a fault leaves image 0", x.goBack(0), 1);
        Check.due("a fault leaves image 1", x.goBack(1), 1);
        Check.feed(x, THREE);
        x.bay();
        Check.due("image 0 is gone", x.goBack(0), Check.NOT);
        Check.due("image 1 is gone", x.goBack(1), Check.NOT);
        x.keep(0);
        x.bay();
        Check.due("an empty text ends it, too", x.goBack(0), Check.NOT);
    }

    private static void imageAfterMuch() {
        Supplier<FireworkDeeds> kept = () -> {
            FireworkDeeds x = Twins.busy();
            x.keep(0);
            return x;
        };
        Twins.alike("after more than can be undone", () -> {
            FireworkDeeds x = kept.get();
            for (int i = 0; i < 21; i++) {
                x.drift(99);
            }
            x.goBack(0);
            return x;
        }, kept);
    }

    private static void imagesWithoutCells() {
        FireworkDeeds x = new FireworkDeeds();
        x.seed(3);
        Check.due("keep(1)", x.keep(1), 1);
        x.seed(4);
        Check.due("goBack(1)", x.goBack(1), 1);
        Check.due("the seed of the image", x.seed(0), 3);
        Check.due("no cells", x.told(0), 0);
    }
}
