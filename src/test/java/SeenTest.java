/** Promises 23 to 27: duck, lit, write, tear, judge. */
public final class SeenTest {
    public static void main(String[] args) {
        duckBounds();
        litSets();
        litWays();
        bookBounds();
        tornAll();
        judged();
        Check.end();
    }

    private static void duckBounds() {
        Check.due("no cells", new FireworkDeeds().duck(0, 0), Check.OUTSIDE);
        FireworkDeeds x = Check.bay("b12 0 5;h0 1 1 a;");
        Check.due("duck(-1, 0)", x.duck(-1, 0), Check.OUTSIDE);
        Check.due("duck(1000, 0)", x.duck(1000, 0), Check.OUTSIDE);
        Check.due("duck(0, -1)", x.duck(0, -1), Check.OUTSIDE);
        Check.due("duck(0, 12)", x.duck(0, 12), Check.OUTSIDE);
        Check.due("duck(999, 11)", x.duck(999, 11), 1);
        for (int i = 2; i <= 6; i++) {
            Check.due("duck " + i, x.duck(0, 0), i);
        }
        Check.due("duck 7", x.duck(0, 0), Check.FULL);
        Check.due("duck outside, full", x.duck(0, 12), Check.OUTSIDE);
        Check.due("told(10)", x.told(10), 6);
    }

    private static void litSets() {
        FireworkDeeds x = Check.bay("b12 0 10;h6 1 1 a;h7 1 1 b;h9 1 1 c;h2 1 1 d;");
        x.duck(0, 11);
        x.duck(0, 7);
        x.duck(5, 3);
        Check.due("held at the greatest cell", x.lit(0), 7);
        Check.due("lit(1)", x.lit(1), 8);
        Check.due("lit(2)", x.lit(2), 0);
        Check.due("lit(3)", x.lit(3), Check.NONE);
        Check.due("lit(-2)", x.lit(-2), Check.NONE);
        x.wind(1);
        Check.due("by the wind now", x.lit(1), 1);
        Check.due("lit(2), wind 1", x.lit(2), 8);
        x.wind(-5);
        Check.due("lit(2), wind -5", x.lit(2), 0);
    }

    private static void litWays() {
        FireworkDeeds x = Check.bay("b12 0 10;h6 1 1 a;h7 1 1 b;h9 1 1 c;h2 1 1 d;");
        Check.due("one way to tell nothing", x.lit(-1), 1);
        x.duck(3, 11);
        Check.due("three", x.lit(-1), 3);
        x.duck(3, 11);
        Check.due("no house twice at one minute", x.lit(-1), 6);
        x.duck(4, 11);
        Check.due("another minute", x.lit(-1), 18);
        x.duck(3, 11);
        Check.due("all three at one minute", x.lit(-1), 18);
        x.duck(3, 7);
        Check.due("one more over its own cell", x.lit(-1), 18);
        x.duck(3, 11);
        Check.due("four of three", x.lit(-1), 0);
        FireworkDeeds most = Check.bay("b6 0 10;h0 1 1 a;h1 1 1 b;h2 1 1 c;h3 1 1 d;h4 1 1 e;h5 1 1 aa;");
        for (int i = 0; i < 6; i++) {
            most.duck(i, 5);
        }
        Check.due("six at six minutes", most.lit(-1), 46656);
        most.tear();
        for (int i = 0; i < 6; i++) {
            most.duck(9, 5);
        }
        Check.due("six at one minute", most.lit(-1), 720);
    }

    private static void bookBounds() {
        FireworkDeeds x = Check.bay("b12 0 5;h0 9 1 a;h1 9 1 b;");
        Check.due("write(0, 0)", x.write(0, 0, true), Check.UNKNOWN);
        Check.due("write(0, 2)", x.write(0, 2, true), Check.UNKNOWN);
        Check.due("write(-1, 0)", x.write(-1, 0, true), Check.UNKNOWN);
        for (int i = 1; i <= 15; i++) {
            Check.due("write " + i, x.write(i % 2, 1 - i % 2, false), i);
        }
        Check.due("write 16", x.write(0, 1, false), Check.FULL);
        Check.due("unknown, full", x.write(0, 2, false), Check.UNKNOWN);
        Check.due("told(11)", x.told(11), 15);
    }

    private static void tornAll() {
        FireworkDeeds x = Check.bay("b12 0 5;h0 9 1 a;h1 9 1 b;");
        Check.due("tear() of nothing", x.tear(), 0);
        x.duck(0, 0);
        x.duck(0, 0);
        x.write(0, 1, true);
        Check.due("tear()", x.tear(), 3);
        Check.due("told(10)", x.told(10), 0);
        Check.due("told(11)", x.told(11), 0);
        Check.due("lit(0)", x.lit(0), Check.NONE);
        Check.due("judge()", x.judge(), Check.NONE);
        Check.due("duck again", x.duck(0, 0), 1);
        Check.due("write again", x.write(0, 1, true), 1);
    }

    private static void judged() {
        FireworkDeeds x = Check.bay("b12 0 5;h0 9 9 a;h1 9 9 b;h2 9 9 c;");
        Check.due("an empty book", x.judge(), Check.NONE);
        x.write(0, 1, false);
        x.write(1, 2, false);
        Check.due("both right", x.judge(), Check.NONE);
        x.write(1, 0, true);
        Check.due("the third is wrong", x.judge(), 2);
        x.light(0);
        x.light(1);
        Check.due("the first is wrong now", x.judge(), 0);
        x.undo();
        Check.due("the third again", x.judge(), 2);
        x.tear();
        x.light(1);
        x.write(1, 2, false);
        x.write(1, 0, true);
        Check.due("both right now", x.judge(), Check.NONE);
        x.minute(1);
        x.light(2);
        Check.due("a conditional one holds", x.judge(), 0);
    }
}
