/** Promises 28 to 30: seed, keep, goBack. */
public final class DrawsTest {
    public static void main(String[] args) {
        seedBounds();
        images();
        imagesEndUndo();
        imageRefusals();
        imagesWithoutCells();
        Check.end();
    }

    private static void seedBounds() {
        FireworkDeeds x = new FireworkDeeds();
        Check.due("seed(-1)", x.seed(-1), Check.OUTSIDE);
        Check.due("seed(2147483647)", x.seed(2147483647), 0);
        Check.due("seed(-2147483648)", x.seed(-2147483648), Check.OUTSIDE);
        Check.due("seed(3)", x.seed(3), 2147483647);
        Check.due("seed(0)", x.seed(0), 3);
    }

    private static void images() {
        FireworkDeeds x = Check.bay("b20 2 5;h5 9 9 a;h6 9 9 b;h7 9 9 c;");
        x.seed(11);
        x.light(0);
        x.light(1);
        x.minute(1);
        Check.due("keep(0)", x.keep(0), 1);
        x.fog(9);
        x.wind(3);
        x.light(2);
        x.seed(12);
        x.minute(5);
        x.duck(0, 0);
        x.write(0, 1, true);
        Check.due("keep(1)", x.keep(1), 1);
        Check.due("goBack(0)", x.goBack(0), 1);
        Check.due("fog", x.told(1), 2);
        Check.due("wind", x.told(2), 0);
        Check.due("minutes", x.told(7), 1);
        Check.due("contracts", x.told(8), 1);
        Check.due("rockets", x.house(2, 2), 9);
        Check.due("signed", x.house(2, 5), Check.NONE);
        Check.due("seed", x.seed(13), 11);
        Check.due("ducks stay", x.told(10), 1);
        Check.due("the book stays", x.told(11), 1);
        Check.due("who saw what is known", x.light(2), 2);
        Check.due("goBack(1)", x.goBack(1), 1);
        Check.due("fog 1", x.told(1), 9);
        Check.due("wind 1", x.told(2), 3);
        Check.due("minutes 1", x.told(7), 6);
        Check.due("signed 1", x.house(2, 6), 10);
        Check.due("seed 1", x.seed(13), 12);
        Check.due("an image stays", x.goBack(0), 1);
        Check.due("minutes 0", x.told(7), 1);
        x.minute(1);
        x.keep(0);
        x.minute(1);
        x.goBack(0);
        Check.due("kept anew", x.told(7), 2);
    }

    private static void imagesEndUndo() {
        FireworkDeeds x = Check.bay("b20 2 5;");
        x.minute(1);
        x.keep(0);
        Check.due("told(12) behind keep", x.told(12), 0);
        Check.due("undo() behind keep", x.undo(), Check.NOT);
        x.minute(1);
        x.goBack(0);
        Check.due("told(12) behind goBack", x.told(12), 0);
        Check.due("undo() behind goBack", x.undo(), Check.NOT);
        x.minute(1);
        x.keep(2);
        x.goBack(2);
        x.goBack(1);
        Check.due("refused, it still can be undone", x.undo(), 0);
    }

    private static void imageRefusals() {
        FireworkDeeds x = Check.bay("b20 2 5;");
        Check.due("keep(-1)", x.keep(-1), Check.UNKNOWN);
        Check.due("keep(2)", x.keep(2), Check.UNKNOWN);
        Check.due("goBack(-1)", x.goBack(-1), Check.UNKNOWN);
        Check.due("goBack(2)", x.goBack(2), Check.UNKNOWN);
        Check.due("goBack(0)", x.goBack(0), Check.NOT);
        x.keep(0);
        Check.due("goBack(1)", x.goBack(1), Check.NOT);
        Check.due("goBack(0), kept", x.goBack(0), 1);
    }

    private static void imagesWithoutCells() {
        FireworkDeeds x = new FireworkDeeds();
        Check.due("keep(0)", x.keep(0), 1);
        x.seed(9);
        Check.due("goBack(0)", x.goBack(0), 1);
        Check.due("seed", x.seed(0), 0);
    }
}
