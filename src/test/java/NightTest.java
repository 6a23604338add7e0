/** Promises 7 to 14: sees, contract, light, minute, fog, wind, drift, undo. */
public final class NightTest {
    public static void main(String[] args) {
        seesByReach();
        seesThroughSmoke();
        contractsByAThird();
        contractsBySlurredPowder();
        contractsByTime();
        contractsByWhatWasSeen();
        conditional();
        lightRefusals();
        minuteBounds();
        fogBounds();
        windBounds();
        driftDraws();
        undoAll();
        undoTwenty();
        refusedChangesNothing();
        Check.end();
    }

    private static void seesByReach() {
        FireworkDeeds x = Check.bay("b20 0 5;h5 3 9 a;h11 9 9 b;h12 1 9 c;");
        Check.due("6 cells by powder 3", x.sees(1, 0), 1);
        Check.due("7 cells by powder 3", x.sees(2, 0), 0);
        Check.due("7 cells by powder 1", x.sees(0, 2), 0);
        Check.due("6 cells by powder 9", x.sees(0, 1), 1);
        x.fog(1);
        Check.due("fog 1 takes nothing", x.sees(1, 0), 1);
        x.fog(2);
        Check.due("fog 2 takes 1", x.sees(1, 0), 0);
        x.wind(1);
        Check.due("wind brings it nearer", x.sees(1, 0), 1);
        x.wind(-5);
        x.fog(20);
        Check.due("reach below 0", x.sees(0, 2), 0);
        Check.due("sees(0, 0)", x.sees(0, 0), Check.UNKNOWN);
        Check.due("sees(3, 0)", x.sees(3, 0), Check.UNKNOWN);
        Check.due("sees(0, 3)", x.sees(0, 3), Check.UNKNOWN);
        Check.due("sees(-1, 0)", x.sees(-1, 0), Check.UNKNOWN);
        FireworkDeeds edge = Check.bay("b10 20 10;h9 7 1 a;h8 9 1 b;h0 9 1 c;");
        Check.due("held within the cells, 1 from it", edge.sees(1, 0), 0);
        edge.fog(18);
        Check.due("held within the cells, 1 from it, less fog", edge.sees(1, 0), 1);
        edge.wind(-5);
        edge.fog(20);
        Check.due("held at 0", edge.sees(1, 2), 0);
        edge.light(2);
        Check.due("held at cell 0", edge.house(2, 6), 0);
    }

    private static void seesThroughSmoke() {
        FireworkDeeds x = Check.bay("b20 0 5;h5 9 9 a;h6 9 9 b;h7 9 9 c;");
        x.wind(1);
        x.light(0);
        x.wind(0);
        Check.due("hidden in this minute", x.sees(2, 1), 0);
        Check.due("its own smoke does not hide it", x.sees(2, 0), 1);
        x.minute(2);
        Check.due("hidden 2 minutes later", x.sees(2, 1), 0);
        x.minute(1);
        Check.due("seen 3 minutes later", x.sees(2, 1), 1);
        x.undo();
        x.light(0);
        Check.due("only the latest rocket hides", x.sees(2, 1), 1);
        FireworkDeeds none = Check.bay("b20 0 5;h5 9 9 a;h6 9 9 b;h7 9 9 c;m0;");
        none.wind(1);
        none.light(0);
        none.wind(0);
        Check.due("smoke of 0 minutes hides in this one", none.sees(2, 1), 0);
        none.minute(1);
        Check.due("smoke of 0 minutes is gone", none.sees(2, 1), 1);
    }

    private static void contractsByAThird() {
        FireworkDeeds x = Check.bay("b20 0 5;h5 9 9 a;h6 9 9 b;h7 9 9 d;");
        Check.due("the first alone", x.light(0), 0);
        Check.due("two, and a third", x.light(1), 1);
        Check.due("contract(0, 1)", x.contract(0, 1), 1);
        Check.due("contract(1, 0)", x.contract(1, 0), 1);
        Check.due("contract(0, 2)", x.contract(0, 2), 0);
        Check.due("with both of them", x.light(2), 2);
        Check.due("told(8)", x.told(8), 3);
        x.minute(1);
        Check.due("they hold already", x.light(0), 0);
        x.minute(99);
        Check.due("for good", x.contract(0, 1), 1);
        Check.due("contract(0, 0)", x.contract(0, 0), Check.UNKNOWN);
        Check.due("contract(0, 3)", x.contract(0, 3), Check.UNKNOWN);
        Check.due("contract(-1, 0)", x.contract(-1, 0), Check.UNKNOWN);
        FireworkDeeds two = Check.bay("b20 0 5;h5 9 9 a;h6 9 9 b;");
        two.light(0);
        Check.due("no third", two.light(1), 0);
        FireworkDeeds apart = Check.bay("b30 0 5;h0 3 9 a;h6 3 9 b;h13 3 9 d;h7 3 9 e;");
        apart.light(0);
        Check.due("only 1 saw 0's, and 1 is no third", apart.light(1), 0);
        Check.due("1 and 2 see 3's: 1 saw 0's, none of them saw 1's", apart.light(3), 1);
        Check.due("nobody saw both 1's and 3's", apart.contract(1, 3), 0);
        Check.due("1 saw both 0's and 3's", apart.contract(0, 3), 1);
    }

    private static void contractsBySlurredPowder() {
        FireworkDeeds x = Check.bay("b9 0 5;h0 9 9 a;h2 2 9 b;h3 9 9 d;h5 9 9 e;");
        x.light(0);
        Check.due("house 1 is read as 2", x.light(1), 1);
        Check.due("slurred contract(0, 1)", x.contract(0, 1), 0);
        Check.due("slurred contract(0, 2)", x.contract(0, 2), 1);
        Check.due("2 with 0 holds, 2 with 1 is 2 with 2", x.light(2), 0);
        FireworkDeeds few = Check.bay("b9 0 5;h0 9 9 a;h2 2 9 b;h3 9 9 d;");
        few.light(0);
        Check.due("as whom it is read is no third", few.light(1), 0);
        FireworkDeeds both = Check.bay("b9 0 5;h0 2 9 a;h1 2 9 b;h2 2 9 d;h3 3 9 e;");
        both.light(0);
        Check.due("0 as 1, 1 as 2: 3 is the third", both.light(1), 1);
        Check.due("contract(1, 2)", both.contract(1, 2), 1);
        Check.due("2 as 3, with 0 as 1 none is a third; with 1 as 2: 0 is", both.light(2), 1);
        Check.due("contract(2, 3)", both.contract(2, 3), 1);
        Check.due("contract(1, 3)", both.contract(1, 3), 0);
    }

    private static void contractsByTime() {
        FireworkDeeds x = Check.bay("b20 0 5;h5 9 9 a;h6 9 9 b;h7 9 9 d;");
        x.light(0);
        x.minute(1);
        Check.due("a minute later", x.light(1), 1);
        x.minute(2);
        Check.due("two minutes later", x.light(2), 0);
        x.minute(1);
        Check.due("all that are lately signed", x.light(0), 1);
        Check.due("contract(0, 2)", x.contract(0, 2), 1);
    }

    private static void contractsByWhatWasSeen() {
        FireworkDeeds x = Check.bay("b20 0 5;h5 3 9 a;h8 3 9 b;h6 9 9 d;");
        x.fog(20);
        x.light(0);
        x.fog(0);
        Check.due("it was not seen when it was lit", x.light(1), 0);
        x.minute(1);
        x.light(0);
        x.undo();
        x.undo();
        x.undo();
        x.undo();
        x.undo();
        Check.due("all undone", x.undo(), 0);
        x.light(0);
        x.fog(20);
        Check.due("it is not seen now", x.light(1), 0);
        FireworkDeeds later = Check.bay("b20 0 5;h5 3 9 a;h9 9 9 b;h6 9 9 d;");
        later.light(0);
        later.fog(18);
        Check.due("it was seen when it was lit, the other is now", later.light(1), 1);
        FireworkDeeds smoke = Check.bay("b20 0 5;h5 9 9 a;h6 9 9 b;h7 9 9 d;h8 9 9 e;");
        smoke.wind(1);
        smoke.light(0);
        smoke.wind(0);
        Check.due("hidden by a rocket of this minute", smoke.light(1), 0);
        Check.due("it signed nevertheless", smoke.house(1, 5), 0);
        Check.due("with 0, not with 1", smoke.light(2), 1);
        Check.due("contract(1, 2)", smoke.contract(1, 2), 0);
    }

    private static void conditional() {
        FireworkDeeds x = Check.bay("b20 0 5;h5 9 9 a;h6 9 9 bc;h7 9 9 d;h8 9 9 c;");
        x.light(0);
        x.light(1);
        x.light(2);
        x.light(3);
        Check.due("no green star", x.contract(0, 2), 1);
        Check.due("one has a green star", x.contract(1, 0), 2);
        Check.due("both have one", x.contract(1, 3), 2);
        Check.due("told(8)", x.told(8), 6);
        Check.due("told(9)", x.told(9), 5);
    }

    private static void lightRefusals() {
        FireworkDeeds x = Check.bay("b20 0 5;h5 9 1 a;h6 9 0 b;");
        Check.due("light(-1)", x.light(-1), Check.UNKNOWN);
        Check.due("light(2)", x.light(2), Check.UNKNOWN);
        Check.due("no rocket", x.light(1), Check.NOT);
        Check.due("light(0)", x.light(0), 0);
        Check.due("none left", x.light(0), Check.NOT);
        x.minute(1);
        Check.due("none left later", x.light(0), Check.NOT);
        Check.due("told(12)", x.told(12), 2);
        FireworkDeeds twice = Check.bay("b20 0 5;h5 9 2 a;");
        twice.light(0);
        Check.due("signed already", twice.light(0), Check.NOT);
        Check.due("the rocket is still there", twice.house(0, 2), 1);
        twice.minute(1);
        Check.due("the next minute", twice.light(0), 0);
        Check.due("without cells", new FireworkDeeds().light(0), Check.UNKNOWN);
    }

    private static void minuteBounds() {
        FireworkDeeds none = new FireworkDeeds();
        Check.due("minute(0), no cells", none.minute(0), Check.OUTSIDE);
        Check.due("minute(1), no cells", none.minute(1), Check.NOT);
        FireworkDeeds x = Check.bay("b2 0 0;");
        Check.due("minute(0)", x.minute(0), Check.OUTSIDE);
        Check.due("minute(100)", x.minute(100), Check.OUTSIDE);
        Check.due("minute(99)", x.minute(99), 99);
        Check.due("minute(1)", x.minute(1), 100);
        Check.due("told(7)", x.told(7), 100);
    }

    private static void fogBounds() {
        FireworkDeeds none = new FireworkDeeds();
        Check.due("fog(21), no cells", none.fog(21), Check.OUTSIDE);
        Check.due("fog(0), no cells", none.fog(0), Check.NOT);
        FireworkDeeds x = Check.bay("b2 7 0;");
        Check.due("fog(-1)", x.fog(-1), Check.OUTSIDE);
        Check.due("fog(21)", x.fog(21), Check.OUTSIDE);
        Check.due("fog(20)", x.fog(20), 7);
        Check.due("fog(0)", x.fog(0), 20);
        Check.due("told(1)", x.told(1), 0);
    }

    private static void windBounds() {
        FireworkDeeds none = new FireworkDeeds();
        Check.due("wind(6), no cells", none.wind(6), Check.OUTSIDE);
        Check.due("wind(0), no cells", none.wind(0), Check.NOT);
        FireworkDeeds x = Check.bay("b2 7 0;");
        Check.due("wind(-6)", x.wind(-6), Check.OUTSIDE);
        Check.due("wind(6)", x.wind(6), Check.OUTSIDE);
        Check.due("wind(5)", x.wind(5), 0);
        Check.due("wind(-5)", x.wind(-5), 10);
        Check.due("told(2)", x.told(2), -5);
    }

    private static void driftDraws() {
        FireworkDeeds none = new FireworkDeeds();
        Check.due("drift(100), no cells", none.drift(100), Check.OUTSIDE);
        Check.due("drift(1), no cells", none.drift(1), Check.NOT);
        FireworkDeeds x = Check.bay("b12 2 5;");
        Check.due("drift(0)", x.drift(0), Check.OUTSIDE);
        x.seed(5);
        Check.due("drift(6)", x.drift(6), 6);
        Check.due("fog", x.told(1), 2);
        Check.due("wind", x.told(2), 4);
        Check.due("one more to undo", x.told(12), 1);
        x.undo();
        Check.due("wind undone", x.told(2), 0);
        Check.due("minutes undone", x.told(7), 0);
        Check.due("the seed stays", x.seed(0), 1186464276);
        // the seeds 0, 12345, 1406932606 .. : a draw of 3 of 12345 / 65536 is 0, so fog becomes a draw of 21
        Check.due("drift(1) from 0", x.drift(1), 1);
        Check.due("seed", x.seed(0), 1406932606);
        Check.due("fog by the second draw", x.told(1), 1406932606 / 65536 % 21);
        x.seed(2147483647);
        x.drift(1);
        Check.due("told(7)", x.told(7), 2);
        int first = (int) ((2147483647L * 1103515245L + 12345L) % 2147483648L);
        int second = (int) ((first * 1103515245L + 12345L) % 2147483648L);
        Check.due("the greatest seed", x.seed(0), first / 65536 % 3 == 2 ? first : second);
    }

    private static void undoAll() {
        Check.due("undo() of none", new FireworkDeeds().undo(), Check.NOT);
        FireworkDeeds x = Check.bay("b20 2 5;h5 9 9 a;h6 9 9 b;h7 9 9 c;");
        x.light(0);
        x.light(1);
        x.minute(3);
        x.fog(4);
        x.wind(2);
        x.light(0);
        Check.due("told(12)", x.told(12), 6);
        Check.due("undo light", x.undo(), 5);
        Check.due("signed as ahead of it", x.house(0, 5), 0);
        Check.due("signed over as ahead of it", x.house(0, 6), 5);
        Check.due("rockets as ahead of it", x.house(0, 2), 8);
        Check.due("undo wind", x.undo(), 4);
        Check.due("wind", x.told(2), 0);
        Check.due("undo fog", x.undo(), 3);
        Check.due("fog", x.told(1), 2);
        Check.due("undo minute", x.undo(), 2);
        Check.due("minutes", x.told(7), 0);
        Check.due("undo light(1)", x.undo(), 1);
        Check.due("contract undone", x.contract(0, 1), 0);
        Check.due("who saw 0's is still known", x.light(2), 1);
        Check.due("undo", x.undo(), 1);
        Check.due("undo light(0)", x.undo(), 0);
        Check.due("nothing signed", x.house(0, 5), Check.NONE);
        Check.due("undo of none", x.undo(), Check.NOT);
    }

    private static void undoTwenty() {
        FireworkDeeds x = Check.bay("b20 2 5;");
        for (int i = 1; i <= 25; i++) {
            x.minute(1);
            Check.due("told(12) of " + i, x.told(12), Math.min(i, 20));
        }
        for (int i = 19; i >= 0; i--) {
            Check.due("undo to " + i, x.undo(), i);
            Check.due("minutes of " + i, x.told(7), i + 5);
        }
        Check.due("the oldest are lost", x.undo(), Check.NOT);
        x.minute(7);
        Check.due("minutes", x.told(7), 12);
        Check.due("undo", x.undo(), 0);
        Check.due("minutes back", x.told(7), 5);
    }

    private static void refusedChangesNothing() {
        FireworkDeeds x = Check.bay("b20 2 5;h1 9 1 a;");
        x.light(0);
        x.light(0);
        x.light(9);
        x.minute(100);
        x.fog(21);
        x.wind(6);
        x.drift(0);
        Check.due("only one can be undone", x.told(12), 1);
        Check.due("fog", x.told(1), 2);
        Check.due("wind", x.told(2), 0);
        Check.due("seed", x.seed(0), 0);
    }
}
