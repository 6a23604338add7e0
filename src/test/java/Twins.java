import java.util.ArrayList;
import java.util.List;
import java.util.function.Function;
import java.util.function.Supplier;
import java.util.function.ToIntFunction;

/**
 * Objects that are made in two ways and should be alike: all that they tell is compared, at once and by going on.
 * Going on changes an object, so that each way to look has objects of its own.
 */
final class Twins {
    private static final List<Function<FireworkDeeds, String>> NIGHT_LOOKS = List.of(
        Twins::bay, Twins::tried, Twins::seen, Twins::lights, Twins::undone, x -> image(x, 0), x -> image(x, 1));

    private Twins() {
    }

    /** The call answers what is due, and leaves all as it was. */
    static void unchanged(String what, Supplier<FireworkDeeds> maker, ToIntFunction<FireworkDeeds> call, int due) {
        Check.due(what, call.applyAsInt(maker.get()), due);
        alike(what + " changes nothing", () -> {
            FireworkDeeds x = maker.get();
            call.applyAsInt(x);
            return x;
        }, maker);
    }

    static void alike(String what, Supplier<FireworkDeeds> got, Supplier<FireworkDeeds> due) {
        alikeButText(what, got, due);
        Check.same(what + ", the text", text(got.get()), text(due.get()));
    }

    /** All but the letters that were fed, and the fault. */
    static void alikeButText(String what, Supplier<FireworkDeeds> got, Supplier<FireworkDeeds> due) {
        for (Function<FireworkDeeds, String> look : NIGHT_LOOKS) {
            Check.same(what, look.apply(got.get()), look.apply(due.get()));
        }
    }

    /** Has a bit of everything: contracts, two images' difference, undos, ducks, a book, a seed, a fault, letters. */
    static FireworkDeeds busy() {
        FireworkDeeds x = Check.bay("b12 2 5;h2 5 3 abc;h5 9 2 a;h8 3 4 aca;h9 2 1 b;m1;g20;");
        x.seed(7);
        x.light(0);
        x.light(1);
        x.minute(1);
        x.keep(1);
        x.fog(4);
        x.light(2);
        x.wind(1);
        x.seed(99);
        x.duck(3, 6);
        x.duck(3, 9);
        x.write(0, 1, true);
        x.write(0, 3, true);
        Check.feed(x, "b2 0 0;x");
        x.bay();
        Check.feed(x, "b9 0");
        return x;
    }

    private static String text(FireworkDeeds x) {
        List<Integer> all = new ArrayList<>();
        all.add(x.told(6));
        all.add(x.fault());
        all.add(x.bay());
        all.add(x.fault());
        return all + bay(x);
    }

    private static String bay(FireworkDeeds x) {
        List<Integer> all = new ArrayList<>();
        for (int what = 0; what <= 12; what++) {
            // 6 is the text, which is looked at by itself
            all.add(what == 6 ? 0 : x.told(what));
        }
        int houses = x.told(3);
        for (int h = 0; h < houses; h++) {
            for (int what = 0; what <= 7; what++) {
                all.add(x.house(h, what));
            }
            for (int g = 0; g < houses; g++) {
                all.add(x.sees(g, h));
                all.add(x.contract(g, h));
            }
        }
        int seed = x.seed(0);
        x.seed(seed);
        all.add(seed);
        return "bay " + all;
    }

    private static String tried(FireworkDeeds x) {
        List<Integer> all = new ArrayList<>();
        int houses = x.told(3);
        int most = (1 << houses) - 1;
        for (int h = 0; h < houses; h++) {
            all.add(x.signers(h));
            all.add(x.partner(h));
            all.add(x.forged(h, 123, 1));
            all.add(x.cross(0, h));
            all.add(x.treaty(most & ~(1 << h)));
            all.add(x.damp(1 << h));
            all.add(x.order(most & 63, h));
            all.add(x.order(most & 61, h));
        }
        all.add(x.farShore(0));
        all.add(x.farShore(1));
        return "tried " + all;
    }

    private static String seen(FireworkDeeds x) {
        List<Integer> all = new ArrayList<>();
        for (int k = -1; k <= 6; k++) {
            all.add(x.lit(k));
        }
        all.add(x.judge());
        int ducks = x.told(10);
        all.add(x.duck(3, 9));
        all.add(x.lit(ducks));
        all.add(x.lit(-1));
        all.add(x.tear());
        return "seen " + all;
    }

    /** Who saw the latest rockets shows only in the contracts that come of further ones. */
    private static String lights(FireworkDeeds x) {
        List<Integer> all = new ArrayList<>();
        int houses = x.told(3);
        for (int h = houses - 1; h >= 0; h--) {
            all.add(x.light(h));
        }
        all.add(x.drift(3));
        return "lights " + all + night(x);
    }

    private static String undone(FireworkDeeds x) {
        StringBuilder all = new StringBuilder("undone ");
        int left = x.told(12);
        while (left > 0) {
            left = x.undo();
            all.append(left).append(night(x));
        }
        return all.append(x.undo()).toString();
    }

    private static String image(FireworkDeeds x, int i) {
        return "image " + i + " " + x.goBack(i) + bay(x) + lights(x);
    }

    private static String night(FireworkDeeds x) {
        List<Integer> all = new ArrayList<>();
        all.add(x.told(1));
        all.add(x.told(2));
        all.add(x.told(7));
        all.add(x.told(8));
        int houses = x.told(3);
        for (int h = 0; h < houses; h++) {
            all.add(x.house(h, 2));
            all.add(x.house(h, 5));
            all.add(x.house(h, 6));
        }
        return all.toString();
    }
}
