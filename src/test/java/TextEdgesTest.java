import java.util.function.Supplier;

/** The edges of section 1, THE BAY, and of promises 1 to 6. */
public final class TextEdgesTest {
    private static final String SEVEN =
        "b9 0 5;h0 1 1 a;h1 1 1 b;h2 1 1 c;h3 1 1 d;h4 1 1 e;h5 1 1 aa;h6 1 1 ab;";

    /** No number of it is out of its bounds when it is cut. */
    private static final String WHOLE = "b22 2 5;h2 5 3 abc;m1;g20;";

    public static void main(String[] args) {
        newObjectHasNoCells();
        feedTakesLettersFrom0To255();
        feedTakes230Letters();
        cellsFrom2To30();
        fogFrom0To20();
        windFrom0To10Less5();
        houseWithinTheCells();
        powderFrom1To9();
        rocketsFrom0To9();
        starsFrom1To5();
        starLettersFromAToE();
        smokeFrom0To9Or2();
        dampFrom0To100Or10();
        numbersOfOneToThreeFigures();
        numbersFarTooLong();
        onlyFiguresAreNumbers();
        blanksAnywhereBut();
        only32IsABlank();
        numbersSideBySideNeedABlank();
        anotherWordFirst();
        wordsOnce();
        eightHousesAtMost();
        cellsTaken();
        starsTaken();
        endAnywhere();
        endBehindALongerText();
        endOfTheLongestText();
        firstLetterThatHasAFault();
        leastFaultAtALetter();
        emptyText();
        longestText();
        faultKeepsAllElse();
        soundTextEndsAllButTheSeed();
        faultOfTheLatestBay();
        toldBounds();
        houseBounds();
        Check.end();
    }

    private static void newObjectHasNoCells() {
        FireworkDeeds x = new FireworkDeeds();
        Check.due("cells", x.told(0), 0);
        Check.due("houses", x.told(3), 0);
        Check.due("fault()", x.fault(), Check.NONE);
        Check.due("minute(1)", x.minute(1), Check.NOT);
        Check.due("duck(0, 0)", x.duck(0, 0), Check.OUTSIDE);
        Check.due("undo()", x.undo(), Check.NOT);
        Check.due("goBack(0)", x.goBack(0), Check.NOT);
        Check.due("seed(1)", x.seed(1), 0);
        Check.due("bay()", x.bay(), 0);
    }

    private static void feedTakesLettersFrom0To255() {
        for (int letter : new int[] {-1, 256, 257, -256, Integer.MIN_VALUE, Integer.MAX_VALUE}) {
            Twins.unchanged("feed(" + letter + ")", Twins::busy, x -> x.feed(letter), Check.OUTSIDE);
        }
        FireworkDeeds low = new FireworkDeeds();
        FireworkDeeds high = new FireworkDeeds();
        for (int i = 0; i < 128; i++) {
            Check.due("feed(" + i + ")", low.feed(i), i + 1);
            Check.due("feed(" + (i + 128) + ")", high.feed(i + 128), i + 1);
        }
    }

    private static Supplier<FireworkDeeds> withLetters(int many) {
        return () -> {
            FireworkDeeds x = new FireworkDeeds();
            Check.feed(x, "b9 0 5;");
            for (int i = 7; i < many; i++) {
                x.feed(' ');
            }
            return x;
        };
    }

    private static void feedTakes230Letters() {
        Check.due("letter 229", withLetters(228).get().feed('x'), 229);
        Check.due("letter 230", withLetters(229).get().feed('x'), 230);
        Twins.unchanged("letter 231", withLetters(230), x -> x.feed('x'), Check.FULL);
        FireworkDeeds x = withLetters(230).get();
        x.feed('x');
        Check.due("the letter too much is in no text", x.bay(), 0);
        Check.due("the text is empty then", x.feed('b'), 1);
        FireworkDeeds last = withLetters(229).get();
        last.feed('x');
        Check.due("the last letter is in the text", last.bay(), -11);
        Check.due("at the last letter", last.fault(), 229);
    }

    private static void told(String text, int what, int due) {
        Check.due("told(" + what + ") of " + text, Check.bay(text).told(what), due);
    }

    private static void house(String text, int what, int due) {
        FireworkDeeds x = Check.bay(text);
        Check.due("house(0, " + what + ") of " + text, x.house(0, what), due);
    }

    private static void cellsFrom2To30() {
        told("b2 0 5;", 0, 2);
        told("b30 0 5;", 0, 30);
        Check.fault("b1 0 5;", 2, 1);
        Check.fault("b0 0 5;", 2, 1);
        Check.fault("b31 0 5;", 2, 1);
        Check.fault("b999 0 5;", 2, 1);
    }

    private static void fogFrom0To20() {
        told("b9 0 5;", 1, 0);
        told("b9 20 5;", 1, 20);
        Check.fault("b9 21 5;", 2, 3);
        Check.fault("b9 -1 5;", 1, 3);
    }

    private static void windFrom0To10Less5() {
        told("b9 0 0;", 2, -5);
        told("b9 0 5;", 2, 0);
        told("b9 0 10;", 2, 5);
        Check.fault("b9 0 11;", 2, 5);
        Check.fault("b9 0 -1;", 1, 5);
    }

    private static void houseWithinTheCells() {
        house("b9 0 5;h0 1 1 a;", 0, 0);
        house("b9 0 5;h8 1 1 a;", 0, 8);
        Check.fault("b9 0 5;h9 1 1 a;", 2, 8);
        house("b2 0 5;h1 1 1 a;", 0, 1);
        Check.fault("b2 0 5;h2 1 1 a;", 2, 8);
        house("b30 0 5;h29 1 1 a;", 0, 29);
        Check.fault("b30 0 5;h30 1 1 a;", 2, 9);
    }

    private static void powderFrom1To9() {
        house("b9 0 5;h0 1 1 a;", 1, 1);
        house("b9 0 5;h0 9 1 a;", 1, 9);
        Check.fault("b9 0 5;h0 0 1 a;", 2, 10);
        Check.fault("b9 0 5;h0 10 1 a;", 2, 10);
    }

    private static void rocketsFrom0To9() {
        house("b9 0 5;h0 1 0 a;", 2, 0);
        house("b9 0 5;h0 1 9 a;", 2, 9);
        Check.fault("b9 0 5;h0 1 10 a;", 2, 12);
    }

    private static void starsFrom1To5() {
        house("b9 0 5;h0 1 1 a;", 3, 1);
        house("b9 0 5;h0 1 1 abcde;", 3, 5);
        Check.fault("b9 0 5;h0 1 1 ;", 1, 14);
        Check.fault("b9 0 5;h0 1 1;", 1, 13);
        Check.fault("b9 0 5;h0 1 1 abcdea;", 1, 19);
        Check.fault("b9 0 5;h0 1 1 abcdea", 1, 19);
        Check.fault("b9 0 5;h0 1 1 abcdeabcde;", 1, 19);
        Check.fault("b9 0 5;h0 1 1 abcdef;", 1, 19);
        Check.fault("b9 0 5;h0 1 1 abcde a;", 1, 20);
    }

    private static void starLettersFromAToE() {
        house("b9 0 5;h0 1 1 a;", 4, 1);
        house("b9 0 5;h0 1 1 e;", 4, 5);
        house("b9 0 5;h0 1 1 eeeee;", 4, 55555);
        house("b9 0 5;h0 1 1 aaaaa;", 4, 11111);
        Check.fault("b9 0 5;h0 1 1 `;", 1, 14);
        Check.fault("b9 0 5;h0 1 1 f;", 1, 14);
        Check.fault("b9 0 5;h0 1 1 A;", 1, 14);
        Check.fault("b9 0 5;h0 1 1 a`;", 1, 15);
        Check.fault("b9 0 5;h0 1 1 ef;", 1, 15);
    }

    private static void smokeFrom0To9Or2() {
        told("b9 0 5;m0;", 4, 0);
        told("b9 0 5;m9;", 4, 9);
        told("b9 0 5;", 4, 2);
        Check.fault("b9 0 5;m10;", 2, 8);
        FireworkDeeds x = Check.bay("b9 0 5;m7;g70;");
        Check.feed(x, "b9 0 5;");
        x.bay();
        Check.due("2 again, untold in the next text", x.told(4), 2);
        Check.due("10 again, untold in the next text", x.told(5), 10);
    }

    private static void dampFrom0To100Or10() {
        told("b9 0 5;g0;", 5, 0);
        told("b9 0 5;g100;", 5, 100);
        told("b9 0 5;", 5, 10);
        Check.fault("b9 0 5;g101;", 2, 8);
        Check.fault("b9 0 5;g999;", 2, 8);
    }

    private static void numbersOfOneToThreeFigures() {
        told("b9 0 5;g7;", 5, 7);
        told("b9 0 5;g07;", 5, 7);
        told("b9 0 5;g007;", 5, 7);
        Check.fault("b9 0 5;g0007;", 2, 8);
        told("b009 000 005;", 0, 9);
        Check.fault("b0009 0 5;", 2, 1);
        Check.fault("b9 0000 5;", 2, 3);
        Check.fault("b9 0 0005;", 2, 5);
        house("b9 0 5;h008 009 009 a;", 2, 9);
        Check.fault("b9 0 5;h0008 9 9 a;", 2, 8);
        Check.fault("b9 0 5;h8 0009 9 a;", 2, 10);
        Check.fault("b9 0 5;h8 9 0009 a;", 2, 12);
        Check.fault("b9 0 5;m0009;", 2, 8);
    }

    private static void numbersFarTooLong() {
        // they would be 9 if counted by 32 or 64 bits alone
        Check.fault("b4294967305 0 5;", 2, 1);
        Check.fault("b18446744073709551625 0 5;", 2, 1);
        StringBuilder zeros = new StringBuilder("b");
        while (zeros.length() < 229) {
            zeros.append('0');
        }
        Check.fault(zeros + "9", 2, 1);
    }

    private static void onlyFiguresAreNumbers() {
        Check.fault("b/ 0 5;", 1, 1);
        Check.fault("b: 0 5;", 1, 1);
        Check.fault("b9/ 0 5;", 1, 2);
        Check.fault("b9: 0 5;", 1, 2);
        Check.fault("b+9 0 5;", 1, 1);
        Check.fault("b9 0 5;m1a;", 1, 9);
    }

    private static void blanksAnywhereBut() {
        told("   b   9   0   5   ;   ", 0, 9);
        Check.sound("b9 0 5;  h  0  1  1  abc  ;  m  1  ;  g  1  ;  ", 1);
        Check.sound("b9 0 5;h0 1 1abc;m1;g1;", 1);
        Check.fault("b9 0 5;m1 1;", 1, 10);
        Check.fault("b9 0 5;h0 1 1 a b;", 1, 16);
        // 3 0 would be 30, but a number ends at a blank: 3 cells, fog 0, wind 0, then one too many
        Check.fault("b3 0 0 5;", 1, 7);
    }

    private static void only32IsABlank() {
        for (int letter : new int[] {0, 9, 10, 13, 31, 33, 160, 255}) {
            FireworkDeeds x = new FireworkDeeds();
            Check.feed(x, "b9");
            x.feed(letter);
            Check.feed(x, "0 5;");
            Check.due("bay() with " + letter + " as a blank", x.bay(), -11);
            Check.due("fault() with " + letter + " as a blank", x.fault(), 2);
        }
    }

    private static void numbersSideBySideNeedABlank() {
        Check.sound("b9 0 5;", 0);
        Check.fault("b90 5;", 2, 1);
        Check.fault("b9 05;", 1, 5);
        Check.fault("b905;", 2, 1);
    }

    private static void anotherWordFirst() {
        for (String word : new String[] {"h0 1 1 a;", "m1;", "g1;", ";", "x", "B9 0 5;"}) {
            Check.fault(word, 1, 0);
            Check.fault("  " + word + "b9 0 5;", 1, 2);
        }
        Check.sound("b9 0 5;h0 1 1 a;m1;g1;", 1);
        Check.fault("b9 0 5;x", 1, 7);
        Check.fault("b9 0 5;;", 1, 7);
        Check.fault("b9 0 5;H0 1 1 a;", 1, 7);
        Check.fault("b9 0 5;5;", 1, 7);
    }

    private static void wordsOnce() {
        Check.fault("b9 0 5;b9 0 5;", 3, 7);
        Check.fault("b9 0 5;b", 3, 7);
        Check.fault("b9 0 5;m2;m2;", 3, 10);
        Check.fault("b9 0 5;m0;h0 1 1 a;m0;", 3, 19);
        Check.fault("b9 0 5;g10; g10;", 3, 12);
        Check.fault("b9 0 5;g0;m0;g", 3, 13);
        Check.sound("b9 0 5;g0;m0;", 0);
    }

    private static void eightHousesAtMost() {
        String eight = SEVEN + "h7 1 1 ac;";
        Check.sound(SEVEN, 7);
        Check.sound(eight, 8);
        Check.sound(eight + "m1;g1;", 8);
        Check.fault(eight + "h8 1 1 ad;", 3, eight.length());
        Check.fault(eight + "h", 3, eight.length());
        Check.fault(eight + "h0 1 1 a;", 3, eight.length());
        Check.due("the eighth", Check.bay(eight).house(7, 4), 13);
    }

    private static void cellsTaken() {
        Check.sound("b9 0 5;h4 1 1 a;h3 1 1 b;h5 1 1 c;", 3);
        Check.fault("b9 0 5;h4 1 1 a;h4 1 1 b;", 4, 17);
        Check.fault("b9 0 5;h4 1 1 a;h  004 1 1 b;", 4, 19);
        Check.fault("b9 0 5;h0 1 1 a;h0", 4, 17);
        Check.fault("b9 0 5;h8 1 1 a;h0 1 1 b;h8 1 1 c;", 4, 26);
    }

    private static void starsTaken() {
        Check.sound("b9 0 5;h4 1 1 ab;h3 1 1 a;h5 1 1 ba;h6 1 1 abb;", 4);
        Check.fault("b9 0 5;h4 1 1 ab;h3 1 1 ab;", 4, 24);
        Check.fault("b9 0 5;h4 1 1 abcde;h3 1 1   abcde;", 4, 29);
        Check.fault("b9 0 5;h4 1 1 a;h3 1 1 b;h5 1 1 a", 4, 32);
        // six letters are no STARS, of whom so ever their first five are
        Check.fault("b9 0 5;h4 1 1 abcde;h3 1 1 abcdea;", 1, 32);
        Check.fault("b9 0 5;h4 1 1 abcde;h3 1 1 abcdec;", 1, 32);
        Check.fault("b9 0 5;h4 1 1 abcde;h3 1 1 abcdee;", 1, 32);
    }

    private static void endAnywhere() {
        for (int length = 0; length <= WHOLE.length(); length++) {
            String text = WHOLE.substring(0, length);
            if (text.isEmpty() || text.endsWith(";")) {
                Check.sound(text, length > 8 ? 1 : 0);
            } else {
                Check.fault(text, 1, length);
                Check.fault(text + "  ", 1, length + 2);
            }
        }
    }

    private static void endBehindALongerText() {
        FireworkDeeds x = Check.bay(WHOLE);
        for (int length = WHOLE.length() - 1; length >= 0; length--) {
            String text = WHOLE.substring(0, length);
            boolean sound = text.isEmpty() || text.endsWith(";");
            Check.feed(x, text);
            Check.due("bay() of " + text + " behind a longer one", x.bay(), !sound ? -11 : length > 8 ? 1 : 0);
            Check.due("fault() of " + text + " behind a longer one", x.fault(), sound ? Check.NONE : length);
        }
    }

    private static void endOfTheLongestText() {
        for (int length = 0; length <= WHOLE.length(); length++) {
            String text = " ".repeat(230 - length) + WHOLE.substring(0, length);
            if (length == 0 || text.endsWith(";")) {
                Check.sound(text, length > 8 ? 1 : 0);
            } else {
                Check.fault(text, 1, 230);
            }
        }
    }

    private static void firstLetterThatHasAFault() {
        Check.fault("b9 0 5;h4 1 1 a;h4 0 1 a;", 4, 17);
        Check.fault("b9 0 5;h4 1 1 a;h5 0 1 a;", 2, 19);
        for (String behind : new String[] {"?", "f", "h", "z", "A", "1", " a", " f", ""}) {
            Check.fault("b9 0 5;h4 1 1 a;h5 1 1 a" + behind, 4, 23);
            Check.fault("b9 0 5;h4 1 1 abcde;h5 1 1 abcde" + behind, 4, 27);
        }
        Check.fault("b9 0 5;m1;m10;", 3, 10);
        Check.fault("b9 0 5;m10;m1;", 2, 8);
        Check.fault("b31 21 11", 2, 1);
        Check.fault("b9 21 11", 2, 3);
        Check.fault("b9 0 11", 2, 5);
    }

    private static void leastFaultAtALetter() {
        // four figures, and a cell that has a house: both at the same letter
        Check.fault("b9 0 5;h4 1 1 a;h0004 1 1 b;", 2, 17);
    }

    private static void emptyText() {
        Check.sound("", 0);
        FireworkDeeds x = Twins.busy();
        Check.feed(x, " 5;");
        Check.due("bay()", x.bay(), 0);
        Check.due("bay() of an empty text", x.bay(), 0);
        Check.due("no fault", x.fault(), Check.NONE);
        Check.due("no cells", x.told(0), 0);
        Check.due("minute(1)", x.minute(1), Check.NOT);
        Check.due("the seed stays", x.seed(0), 99);
        Twins.alike("an empty text is as a new object", () -> {
            FireworkDeeds emptied = Check.bay("b9 3 9;h0 9 9 a;h1 9 9 b;h2 9 9 c;m1;g1;");
            emptied.light(0);
            emptied.light(1);
            emptied.keep(0);
            emptied.minute(1);
            emptied.duck(0, 0);
            emptied.write(0, 1, false);
            emptied.bay();
            return emptied;
        }, FireworkDeeds::new);
    }

    private static void longestText() {
        StringBuilder text = new StringBuilder(SEVEN + "h7 1 1 ac;m1;");
        while (text.length() < 230 - 3) {
            text.append(' ');
        }
        Check.sound(text + "g3;", 8);
        told(text + "g3;", 6, 0);
        told(text + "g3;", 5, 3);
        Check.fault(text + " g3;", 1, 230);
    }

    private static void faultKeepsAllElse() {
        String[] rests = {"", "x", " 5;h1", " 5;h1 1 1 a;h1 1 1 b;", " 5;b", " 50;", " 5;m9;g9;h0 9 9 e;h1 9 9 d;x"};
        for (String rest : rests) {
            Twins.alikeButText("a fault in b9 0" + rest, () -> {
                FireworkDeeds x = Twins.busy();
                Check.feed(x, rest);
                x.bay();
                return x;
            }, Twins::busy);
            FireworkDeeds x = Twins.busy();
            Check.feed(x, rest);
            x.bay();
            Check.due("the text is empty, with a fault, too", x.told(6), 0);
        }
    }

    private static void soundTextEndsAllButTheSeed() {
        Twins.alike("a sound text", () -> {
            FireworkDeeds x = Twins.busy();
            Check.feed(x, " 5;h1 9 9 a;h2 9 9 b;h3 9 9 c;");
            Check.due("bay()", x.bay(), 3);
            return x;
        }, () -> {
            FireworkDeeds x = Check.bay("b9 0 5;h1 9 9 a;h2 9 9 b;h3 9 9 c;");
            x.seed(99);
            return x;
        });
    }

    private static void faultOfTheLatestBay() {
        FireworkDeeds x = new FireworkDeeds();
        Check.due("of no bay()", x.fault(), Check.NONE);
        x.feed('x');
        Check.due("ahead of bay()", x.fault(), Check.NONE);
        Check.due("bay()", x.bay(), -11);
        Check.due("at the first letter", x.fault(), 0);
        Check.feed(x, "b9 0 5;");
        Check.due("it stays till the next bay()", x.fault(), 0);
        x.bay();
        Check.due("of a sound one", x.fault(), Check.NONE);
        Check.feed(x, "b9");
        x.bay();
        Check.due("at the end", x.fault(), 2);
        x.minute(1);
        Check.due("whatever is done", x.fault(), 2);
        x.bay();
        Check.due("of an empty one", x.fault(), Check.NONE);
    }

    private static void toldBounds() {
        for (int what : new int[] {-1, 13, Integer.MIN_VALUE, Integer.MAX_VALUE}) {
            Twins.unchanged("told(" + what + ")", Twins::busy, x -> x.told(what), Check.OUTSIDE);
            Twins.unchanged("new told(" + what + ")", FireworkDeeds::new, x -> x.told(what), Check.OUTSIDE);
        }
        Check.due("told(0)", Twins.busy().told(0), 12);
        Check.due("told(12)", Twins.busy().told(12), 3);
    }

    private static void houseBounds() {
        for (int what : new int[] {-1, 8, Integer.MIN_VALUE, Integer.MAX_VALUE}) {
            Twins.unchanged("house(0, " + what + ")", Twins::busy, x -> x.house(0, what), Check.OUTSIDE);
        }
        Check.due("house(3, 0)", Twins.busy().house(3, 0), 9);
        Check.due("house(3, 5), not signed", Twins.busy().house(3, 5), Check.NONE);
        Check.due("house(3, 6), not signed", Twins.busy().house(3, 6), Check.NONE);
        Check.due("house(2, 5)", Twins.busy().house(2, 5), 1);
        Check.due("house(2, 6)", Twins.busy().house(2, 6), 8);
        Check.due("house(3, 7)", Twins.busy().house(3, 7), 3);
    }
}
