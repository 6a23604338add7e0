/** Promises 1 to 6: a new object, feed, bay, fault, told, house. */
public final class BayTest {
    public static void main(String[] args) {
        newObject();
        feedBounds();
        soundTexts();
        longestText();
        faultsOfPlace();
        faultsOfNumbers();
        faultsOfRepetition();
        faultsOfTaken();
        bayReplaces();
        bayWithFaultKeeps();
        toldOfAll();
        houseOfAll();
        Check.end();
    }

    private static void newObject() {
        FireworkDeeds x = new FireworkDeeds();
        int[] due = {0, 0, 0, 0, 2, 10, 0, 0, 0, 0, 0, 0, 0};
        for (int what = 0; what < due.length; what++) {
            Check.due("new told(" + what + ")", x.told(what), due[what]);
        }
        Check.due("new fault()", x.fault(), Check.NONE);
        Check.due("new house(0, 0)", x.house(0, 0), Check.UNKNOWN);
        Check.due("new seed(0)", x.seed(0), 0);
        Check.due("NONE", FireworkDeeds.NONE, Check.NONE);
        Check.due("UNKNOWN", FireworkDeeds.UNKNOWN, Check.UNKNOWN);
        Check.due("OUTSIDE", FireworkDeeds.OUTSIDE, Check.OUTSIDE);
        Check.due("NOT", FireworkDeeds.NOT, Check.NOT);
        Check.due("FULL", FireworkDeeds.FULL, Check.FULL);
    }

    private static void feedBounds() {
        FireworkDeeds x = new FireworkDeeds();
        Check.due("feed(-1)", x.feed(-1), Check.OUTSIDE);
        Check.due("feed(256)", x.feed(256), Check.OUTSIDE);
        Check.due("feed(0)", x.feed(0), 1);
        Check.due("feed(255)", x.feed(255), 2);
        for (int i = 3; i <= 230; i++) {
            Check.due("feed " + i, x.feed(32), i);
        }
        Check.due("feed 231", x.feed(32), Check.FULL);
        Check.due("feed(256), full", x.feed(256), Check.OUTSIDE);
        Check.due("told(6), full", x.told(6), 230);
        Check.due("bay() of signs 0, 255", x.bay(), -11);
        Check.due("fault()", x.fault(), 0);
        Check.due("told(6) behind bay()", x.told(6), 0);
        Check.due("feed behind bay()", x.feed('b'), 1);
    }

    private static void soundTexts() {
        Check.sound("", 0);
        Check.sound("   ", 0);
        Check.sound("b2 0 0;", 0);
        Check.sound("b30 20 10;", 0);
        Check.sound("  b  002 00   0 ;  ", 0);
        Check.sound("b2 0 0;h0 1 0a;h 1 9 9 abcde ;", 2);
        Check.sound("b9 0 0;g100;h8 1 1 e;m9;", 1);
        Check.sound("b9 0 0;g0;m0;h8 1 1 e;", 1);
        Check.sound("b9 0 0;h0 1 1a;h1 1 1b;h2 1 1c;h3 1 1d;h4 1 1e;h5 1 1aa;h6 1 1ab;h7 1 1ac;", 8);
        Check.sound("b9 0 0;h0 1 1 ab;h1 1 1 ba;h2 1 1 a;", 3);
    }

    private static void longestText() {
        String text = "b30 0 5;h0 9 9 a;h1 9 9 b;h2 9 9 c;h3 9 9 d;h4 9 9 e;h5 9 9 aa;h6 9 9 bb;h7 9 9 ccccc;";
        while (text.length() < 229) {
            text += " ";
        }
        Check.sound(text + " ", 8);
        Check.fault(text + "m", 1, 230);
        FireworkDeeds x = Check.bay(text + " ");
        for (int h = 0; h < 8; h++) {
            x.light(h);
        }
        Check.due("contracts of eight", x.told(8), 28);
        Check.due("conditional ones of eight", x.told(9), 13);
        Check.due("contract(6, 7)", x.contract(6, 7), 2);
        Check.due("contract(5, 6)", x.contract(5, 6), 1);
    }

    private static void faultsOfPlace() {
        Check.fault("h0 1 1 a;", 1, 0);
        Check.fault("m2;", 1, 0);
        Check.fault("g2;b2 0 0;", 1, 0);
        Check.fault("  x", 1, 2);
        Check.fault(";", 1, 0);
        Check.fault("b", 1, 1);
        Check.fault("b2", 1, 2);
        Check.fault("b2 ", 1, 3);
        Check.fault("b2 0;", 1, 4);
        Check.fault("b2 0 0", 1, 6);
        Check.fault("b2 0 0;;", 1, 7);
        Check.fault("b2 0 0;B", 1, 7);
        Check.fault("b2 0 0 0;", 1, 7);
        Check.fault("b2 0 0 1000;", 1, 7);
        Check.fault("b2 0 -1;", 1, 5);
        Check.fault("b2\t0 0;", 1, 2);
        Check.fault("b2 0 0;h0 1 1 ;", 1, 14);
        Check.fault("b2 0 0;h0 1 1 2;", 1, 14);
        Check.fault("b2 0 0;h0 1 1 f;", 1, 14);
        Check.fault("b2 0 0;h0 1 1 af;", 1, 15);
        Check.fault("b2 0 0;h0 1 1 a b;", 1, 16);
        Check.fault("b2 0 0;h0 1 1 a", 1, 15);
        Check.fault("b2 0 0;h0 1 1 abcdea;", 1, 19);
        Check.fault("b2 0 0;h0 1 1 abcdee;", 1, 19);
        Check.fault("b2 0 0;h0 1 1 abcde;h1 1 1 abcdea;", 1, 32);
        Check.fault("b2 0 0;m;", 1, 8);
        Check.fault("b2 0 0;g 1 1;", 1, 11);
    }

    private static void faultsOfNumbers() {
        Check.fault("b1 0 0;", 2, 1);
        Check.fault("b31 0 0;", 2, 1);
        Check.fault("b 0002 0 0;", 2, 2);
        Check.fault("b2000000000000000000000000 0 0;", 2, 1);
        Check.fault("b4294967298 0 0;", 2, 1);
        Check.fault("b2 21 0;", 2, 3);
        Check.fault("b2 0 11;", 2, 5);
        Check.fault("b2 0 11", 2, 5);
        Check.fault("b2 0 0;h2 1 1 a;", 2, 8);
        Check.fault("b2 0 0;h0 0 1 a;", 2, 10);
        Check.fault("b2 0 0;h0 10 1 a;", 2, 10);
        Check.fault("b2 0 0;h0 1 10 a;", 2, 12);
        Check.fault("b2 0 0;m10;", 2, 8);
        Check.fault("b2 0 0;g101;", 2, 8);
        Check.fault("b2 0 0;g0000;", 2, 8);
    }

    private static void faultsOfRepetition() {
        Check.fault("b2 0 0;b", 3, 7);
        Check.fault("b2 0 0;m1;m1;", 3, 10);
        Check.fault("b2 0 0;g1; g1;", 3, 11);
        Check.fault("b9 0 0;h0 1 1a;h1 1 1b;h2 1 1c;h3 1 1d;h4 1 1e;h5 1 1aa;h6 1 1ab;h7 1 1ac;h8 1 1ad;", 3, 74);
    }

    private static void faultsOfTaken() {
        Check.fault("b2 0 0;h0 1 1 a;h0 1 1 b;", 4, 17);
        Check.fault("b2 0 0;h0 1 1 a;h 00 1 1 b;", 4, 18);
        Check.fault("b2 0 0;h0 1 1 a;h0 10 1 b;", 4, 17);
        Check.fault("b2 0 0;h0 1 1 a;h1 1 1 a;", 4, 23);
        Check.fault("b2 0 0;h0 1 1 a;h1 1 1 a", 4, 23);
        Check.fault("b2 0 0;h0 1 1 a;h1 1 1 a*", 4, 23);
        Check.fault("b3 0 0;h0 1 1 ab;h1 1 1 a;h2 1 1  ab;", 4, 34);
    }

    private static void bayReplaces() {
        FireworkDeeds x = Check.bay("b9 4 7;h0 9 9 a;h1 9 9 b;h2 9 9 c;m3;g30;");
        x.seed(77);
        x.light(0);
        x.light(1);
        x.minute(4);
        x.keep(0);
        x.light(2);
        x.duck(1, 1);
        x.write(0, 1, true);
        Check.feed(x, "b8 1 5;h0 9 3 a;h1 9 9 b;h2 9 9 d;");
        Check.due("bay() again", x.bay(), 3);
        int[] due = {8, 1, 0, 3, 2, 10, 0, 0, 0, 0, 0, 0, 0};
        for (int what = 0; what < due.length; what++) {
            Check.due("second told(" + what + ")", x.told(what), due[what]);
        }
        Check.due("rockets again", x.house(0, 2), 3);
        Check.due("nothing signed", x.house(0, 5), Check.NONE);
        Check.due("nothing signed over", x.house(0, 6), Check.NONE);
        Check.due("image gone", x.goBack(0), Check.NOT);
        Check.due("seed stays", x.seed(77), 77);
        x.light(0);
        Check.due("empty bay()", x.bay(), 0);
        int[] none = {0, 0, 0, 0, 2, 10, 0, 0, 0, 0, 0, 0, 0};
        for (int what = 0; what < none.length; what++) {
            Check.due("empty told(" + what + ")", x.told(what), none[what]);
        }
        Check.due("empty house", x.house(0, 0), Check.UNKNOWN);
    }

    private static void bayWithFaultKeeps() {
        FireworkDeeds x = Check.bay("b9 4 7;h0 9 9 a;h1 9 9 b;h2 9 9 c;m3;g30;");
        x.light(0);
        x.light(1);
        x.keep(1);
        x.minute(4);
        x.duck(1, 1);
        x.write(0, 1, true);
        Check.feed(x, "b3 1 1;h0 1 1 abc;m9;g9;h1 1 1");
        Check.due("bay() with a fault", x.bay(), -11);
        Check.due("its fault()", x.fault(), 30);
        int[] due = {9, 4, 2, 3, 3, 30, 0, 4, 1, 0, 1, 1, 1};
        for (int what = 0; what < due.length; what++) {
            Check.due("kept told(" + what + ")", x.told(what), due[what]);
        }
        Check.due("stars kept", x.house(0, 4), 1);
        Check.due("image kept", x.goBack(1), 1);
        Check.feed(x, "b3 1 1;");
        Check.due("bay() without", x.bay(), 0);
        Check.due("no fault()", x.fault(), Check.NONE);
    }

    private static void toldOfAll() {
        FireworkDeeds x = Check.bay("b20 3 0;h5 9 9 a;h6 9 9 bc;h7 9 9 c;h9 9 9 d;m7;g0;");
        x.light(0);
        x.light(1);
        x.light(3);
        x.minute(2);
        x.duck(0, 0);
        x.duck(0, 0);
        x.write(0, 1, false);
        x.feed('b');
        int[] due = {20, 3, -5, 4, 7, 0, 1, 2, 3, 2, 2, 1, 4};
        for (int what = 0; what < due.length; what++) {
            Check.due("told(" + what + ")", x.told(what), due[what]);
        }
        Check.due("told(-1)", x.told(-1), Check.OUTSIDE);
        Check.due("told(13)", x.told(13), Check.OUTSIDE);
    }

    private static void houseOfAll() {
        FireworkDeeds x = Check.bay("b20 0 7;h5 2 9 abcde;h19 1 0 e;h7 3 4 cc;h12 1 1 d;");
        int[][] due = {
            {5, 2, 9, 5, 12345, -1, -1, 2},
            {19, 1, 0, 1, 5, -1, -1, 1},
            {7, 3, 4, 2, 33, -1, -1, 2},
            {12, 1, 1, 1, 4, -1, -1, 1},
        };
        for (int h = 0; h < due.length; h++) {
            for (int what = 0; what < 8; what++) {
                Check.due("house(" + h + ", " + what + ")", x.house(h, what), due[h][what]);
            }
        }
        Check.due("house(4, 0)", x.house(4, 0), Check.UNKNOWN);
        Check.due("house(-1, 9)", x.house(-1, 9), Check.UNKNOWN);
        Check.due("house(0, 8)", x.house(0, 8), Check.OUTSIDE);
        Check.due("house(0, -1)", x.house(0, -1), Check.OUTSIDE);
        x.minute(3);
        x.light(0);
        Check.due("rockets left", x.house(0, 2), 8);
        Check.due("signed at", x.house(0, 5), 3);
        Check.due("signed over", x.house(0, 6), 7);
    }
}
