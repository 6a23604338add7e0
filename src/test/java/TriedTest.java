/** Promises 15 to 22: order, signers, farShore, cross, treaty, forged, damp, partner. */
public final class TriedTest {
    public static void main(String[] args) {
        orderOfNeighbours();
        orderThroughSmoke();
        orderRefusals();
        signersOfAll();
        farShoreOfAll();
        crossOfAll();
        treatyOfAll();
        forgedOfAll();
        dampOfAll();
        partners();
        partnersWithoutRockets();
        nothingChanges();
        Check.end();
    }

    private static void order(String what, FireworkDeeds x, int set, int... due) {
        for (int i = 0; i < due.length; i++) {
            Check.due(what + ": order(" + set + ", " + i + ")", x.order(set, i), due[i]);
        }
    }

    private static void orderOfNeighbours() {
        FireworkDeeds x = Check.bay("b20 0 5;h5 9 0 a;h6 9 0 b;h7 9 0 c;h8 9 0 d;m0;");
        order("four neighbours", x, 15, 1, 3, 0, 2, Check.NONE);
        order("three neighbours", x, 7, Check.NONE, Check.NONE, Check.NONE);
        order("two that are 2 apart", x, 10, 1, 3, Check.NONE);
        order("one", x, 4, 2, Check.NONE);
        order("none", x, 0, Check.NONE);
        Check.due("order(15, -1)", x.order(15, -1), Check.NONE);
        FireworkDeeds six = Check.bay("b20 0 5;h5 9 0 a;h6 9 0 b;h7 9 0 c;h8 9 0 d;h9 9 0 e;h10 9 0 aa;m0;");
        order("six neighbours", six, 63, 0, 2, 4, 1, 3, 5, Check.NONE);
        FireworkDeeds dim = Check.bay("b20 0 5;h5 9 0 a;h6 9 0 b;h9 1 0 c;h14 1 0 d;");
        order("seen by two", dim, 4, 2);
        order("seen by none", dim, 8, Check.NONE);
        order("one of them seen by none", dim, 9, Check.NONE);
        dim.fog(2);
        order("seen by two of them still", dim, 5, Check.NONE);
    }

    private static void orderThroughSmoke() {
        FireworkDeeds x = Check.bay("b10 0 10;h6 9 9 a;h8 9 9 b;h2 9 9 c;h0 9 9 d;m1;");
        order("one behind the other over cell 9, another between", x, 7, 0, 2, 1);
        order("one behind the other over cell 9", x, 3, Check.NONE, Check.NONE);
        FireworkDeeds lit = Check.bay("b10 0 10;h6 9 9 a;h8 9 9 b;h2 9 9 c;h0 9 9 d;m1;");
        lit.light(1);
        order("house 1 was lit over cell 9 now, a minute is too short", lit, 5, Check.NONE, Check.NONE);
        FireworkDeeds wide = Check.bay("b20 0 10;h6 9 9 a;h8 9 9 b;h2 9 9 c;h0 9 9 d;m1;");
        wide.light(1);
        order("over unlike cells nobody must wait", wide, 13, 0, 2, 3);
        FireworkDeeds wait = Check.bay("b10 0 10;h6 9 9 a;h8 9 9 b;h2 9 9 c;h0 9 9 d;m1;");
        wait.light(1);
        order("two minutes must pass, two others sign ahead of it", wait, 13, 2, 3, 0);
    }

    private static void orderRefusals() {
        FireworkDeeds x = Check.bay("b20 0 5;h1 9 0 a;h3 9 0 b;h5 9 0 c;h7 9 0 d;h9 9 0 e;h11 9 0 aa;h13 9 0 ab;");
        Check.due("seven", x.order(127, 0), Check.OUTSIDE);
        Check.due("bits of none", x.order(255, 0), Check.UNKNOWN);
        Check.due("below 0", x.order(-1, 0), Check.UNKNOWN);
        Check.due("the least", x.order(-2147483648, 0), Check.UNKNOWN);
        order("six", x, 126, 1, 2, 3, 4, 5, 6, Check.NONE);
    }

    private static void signersOfAll() {
        FireworkDeeds x = Check.bay("b20 0 5;h9 2 1 a;h5 1 1 b;h7 3 1 c;h12 1 1 d;");
        Check.due("signers(0)", x.signers(0), 0);
        Check.due("signers(1)", x.signers(1), 0);
        Check.due("signers(2)", x.signers(2), 2 + 4);
        Check.due("signers(3)", x.signers(3), 1 + 8);
        Check.due("signers(4)", x.signers(4), Check.UNKNOWN);
        Check.due("signers(-1)", x.signers(-1), Check.UNKNOWN);
    }

    private static void farShoreOfAll() {
        FireworkDeeds x = Check.bay("b20 0 5;h1 1 1 abc;h2 1 1 abcba;h3 1 1 cb;h4 1 1 cba;h5 1 1 e;h6 1 1 bca;");
        Check.due("farShore(0)", x.farShore(0), 1 + 8);
        Check.due("farShore(1)", x.farShore(1), 2 + 16);
        Check.due("farShore(2)", x.farShore(2), Check.OUTSIDE);
        Check.due("farShore(-1)", x.farShore(-1), Check.OUTSIDE);
        Check.due("of no house", new FireworkDeeds().farShore(1), 0);
    }

    private static void crossOfAll() {
        FireworkDeeds x = Check.bay("b20 0 5;h7 1 1 a;h5 1 1 b;h6 1 1 c;h9 1 1 d;h10 1 1 e;");
        Check.due("cross(0, 1)", x.cross(0, 1), 2);
        Check.due("cross(1, 0)", x.cross(1, 0), 2);
        Check.due("none between", x.cross(0, 3), Check.NONE);
        Check.due("1 apart", x.cross(0, 2), Check.NONE);
        Check.due("3 apart", x.cross(0, 4), Check.NONE);
        Check.due("4 apart", x.cross(1, 3), Check.NONE);
        Check.due("cross(0, 0)", x.cross(0, 0), Check.UNKNOWN);
        Check.due("cross(0, 5)", x.cross(0, 5), Check.UNKNOWN);
        Check.due("cross(-1, 5)", x.cross(-1, 5), Check.UNKNOWN);
    }

    private static void treatyOfAll() {
        FireworkDeeds x = Check.bay("b30 0 5;h0 1 1 a;h10 9 1 b;h29 5 1 c;");
        Check.due("treaty(3)", x.treaty(3), 6);
        Check.due("treaty(5)", x.treaty(5), 25 + 21);
        Check.due("treaty(7)", x.treaty(7), 25 + 7 + 21);
        Check.due("treaty(4)", x.treaty(4), 0);
        x.fog(20);
        Check.due("one alone in fog", x.treaty(1), 0);
        Check.due("treaty(3) in fog", x.treaty(3), 16 + 8);
        x.wind(5);
        Check.due("treaty(5) with wind: 0 over 5, 2 over 29", x.treaty(5), 24 + 6 + 29 + 2);
        Check.due("bits of none", x.treaty(8), Check.UNKNOWN);
        Check.due("below 0", x.treaty(-1), Check.UNKNOWN);
        x.fog(0);
        x.light(2);
        Check.due("hidden is of no matter", x.treaty(5), 24 - 4 + 29 - 8);
    }

    private static void forgedOfAll() {
        FireworkDeeds x = Check.bay("b30 0 5;h0 1 1 ab;h10 9 1 edcba;");
        Check.due("alike", x.forged(0, 12, 0), 0);
        Check.due("alike, odds", x.forged(0, 12, 1), 810000000);
        Check.due("one more", x.forged(0, 121, 0), 1);
        Check.due("one more, odds", x.forged(0, 121, 1), 81000000);
        Check.due("one ahead", x.forged(0, 312, 0), 3);
        Check.due("one ahead, odds", x.forged(0, 312, 1), 1000000);
        Check.due("one less", x.forged(0, 1, 0), 1);
        Check.due("all unlike", x.forged(1, 12543, 0), 5);
        Check.due("all unlike, odds", x.forged(1, 12543, 1), 10000);
        Check.due("one of five", x.forged(1, 5, 1), 90000);
        Check.due("no house", x.forged(2, 0, 9), Check.UNKNOWN);
        int[] outside = {0, -1, 6, 10, 16, 61, 102, 123456, 111111, 2147483647, -2147483648, 12340, 7, 99999};
        for (int stars : outside) {
            Check.due("forged(0, " + stars + ", 0)", x.forged(0, stars, 0), Check.OUTSIDE);
        }
        Check.due("what = 2", x.forged(0, 12, 2), Check.OUTSIDE);
        Check.due("what = -1", x.forged(0, 12, -1), Check.OUTSIDE);
    }

    private static void dampOfAll() {
        FireworkDeeds x = Check.bay("b30 0 5;h0 1 1 ab;h10 9 1 ccccc;h4 1 1 acc;g33;");
        Check.due("none is green", x.damp(1), 1000000000);
        Check.due("of no house", x.damp(0), 1000000000);
        Check.due("two", x.damp(4), 448900000);
        Check.due("five, each cut", x.damp(2), 135012510);
        Check.due("seven, each cut", x.damp(7), 60607115);
        Check.due("bits of none", x.damp(8), Check.UNKNOWN);
        Check.due("below 0", x.damp(-1), Check.UNKNOWN);
        FireworkDeeds never = Check.bay("b30 0 5;h0 1 1 c;g0;");
        Check.due("never damp", never.damp(1), 1000000000);
        FireworkDeeds always = Check.bay("b30 0 5;h0 1 1 c;g100;");
        Check.due("always damp", always.damp(1), 0);
        FireworkDeeds untold = Check.bay("b30 0 5;h0 1 1 c;");
        Check.due("10 untold", untold.damp(1), 900000000);
    }

    private static void partners(String what, FireworkDeeds x, int... due) {
        for (int h = 0; h < due.length; h++) {
            Check.due(what + ": partner(" + h + ")", x.partner(h), due[h]);
        }
    }

    private static void partners() {
        FireworkDeeds x = Check.bay("b12 2 5;h2 5 3 a;h4 2 2 b;h5 9 1 c;h8 3 4 d;h9 1 2 e;");
        partners("two of three", x, -1, 2, 1, 4, 3);
        Check.due("partner(5)", x.partner(5), Check.UNKNOWN);
        Check.due("partner(-1)", x.partner(-1), Check.UNKNOWN);
        FireworkDeeds like = Check.bay("b12 2 5;h5 5 3 a;h3 2 2 b;h1 9 1 c;h7 3 4 d;");
        partners("of like ones the least asks, and is kept", like, 1, 0, 3, 2);
        FireworkDeeds chain = Check.bay("b30 2 5;h10 5 3 a;h11 2 2 b;h12 9 1 c;h14 3 4 d;h15 3 4 e;h29 1 1 aa;");
        partners("who is refused asks on", chain, 1, 0, 5, 4, 3, 2);
        FireworkDeeds changed = Check.bay("b30 2 5;h10 5 3 a;h13 2 2 b;h14 9 1 c;h5 3 4 d;");
        partners("who was kept is given up for a nearer one", changed, 3, 2, 1, 0);
        FireworkDeeds alone = Check.bay("b30 2 5;h10 5 3 a;");
        partners("nobody to ask", alone, -1);
    }

    private static void partnersWithoutRockets() {
        FireworkDeeds x = Check.bay("b30 2 5;h10 5 1 a;h13 2 1 b;h20 9 1 c;h5 3 0 d;");
        partners("house 3 has none", x, 1, 0, -1, -1);
        x.light(0);
        partners("house 0 has none left", x, -1, 2, 1, -1);
        x.light(1);
        partners("house 1 has none left", x, -1, -1, -1, -1);
    }

    private static void nothingChanges() {
        FireworkDeeds x = Check.bay("b20 0 5;h5 9 9 a;h6 9 9 b;h7 9 9 c;h9 9 9 d;");
        x.light(0);
        x.order(15, 0);
        x.treaty(15);
        x.partner(0);
        x.damp(15);
        x.cross(0, 2);
        Check.due("told(7)", x.told(7), 0);
        Check.due("told(8)", x.told(8), 0);
        Check.due("told(12)", x.told(12), 1);
        Check.due("signed", x.house(1, 5), Check.NONE);
        Check.due("rockets", x.house(1, 2), 9);
        Check.due("light(1)", x.light(1), 1);
    }
}
