/** What the tests share: answers compared with those that are due, and texts fed. */
final class Check {
    static final int NONE = -1;
    static final int UNKNOWN = -1000000001;
    static final int OUTSIDE = -1000000002;
    static final int NOT = -1000000003;
    static final int FULL = -1000000004;

    private static int wrong = 0;
    private static int checks = 0;

    private Check() {
    }

    static void due(String call, long got, long want) {
        checks++;
        if (got != want) {
            wrong++;
            System.out.println(call + " answered " + got + ", due is " + want);
        }
    }

    static void same(String what, String got, String want) {
        checks++;
        if (!got.equals(want)) {
            wrong++;
            System.out.println(what + ":\n  told  " + got + "\n  due   " + want);
        }
    }

    static void feed(FireworkDeeds deeds, String text) {
        for (int i = 0; i < text.length(); i++) {
            deeds.feed(text.charAt(i));
        }
    }

    static FireworkDeeds bay(String text) {
        FireworkDeeds deeds = new FireworkDeeds();
        feed(deeds, text);
        int answer = deeds.bay();
        if (answer < 0) {
            due("bay() of " + text, answer, 0);
        }
        return deeds;
    }

    /** Feeds a text with a fault, and looks at its number and its letter. */
    static void fault(String text, int number, int letter) {
        FireworkDeeds deeds = new FireworkDeeds();
        feed(deeds, text);
        due("bay() of \"" + text + "\"", deeds.bay(), -10 - number);
        due("fault() of \"" + text + "\"", deeds.fault(), letter);
    }

    /** Feeds a text without a fault, and looks at how many houses it has. */
    static void sound(String text, int houses) {
        FireworkDeeds deeds = new FireworkDeeds();
        feed(deeds, text);
        due("bay() of \"" + text + "\"", deeds.bay(), houses);
        due("fault() of \"" + text + "\"", deeds.fault(), NONE);
    }

    static void end() {
        if (wrong > 0) {
            System.out.println(wrong + " of " + checks + " answers are wrong");
            System.exit(1);
        }
        System.out.println(checks + " answers are as due");
    }
}
