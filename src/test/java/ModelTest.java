import java.util.Random;

/** All promises: runs of random calls, each answer compared with that of PlainModel. */
public final class ModelTest {
    private static final int RUNS = 3000;
    private static final int CALLS = 512;

    private final Random random;
    private final FireworkDeeds real = new FireworkDeeds();
    private final PlainModel plain = new PlainModel();
    private final StringBuilder log = new StringBuilder();
    private int calls = 0;
    private boolean wrong = false;

    private ModelTest(long seed) {
        random = new Random(seed);
    }

    public static void main(String[] args) {
        int failures = 0;
        for (int run = 0; run < RUNS && failures < 5; run++) {
            ModelTest test = new ModelTest(run);
            test.go();
            if (test.wrong) {
                failures++;
                System.out.println("run " + run + ":\n" + test.log);
            }
        }
        if (failures > 0) {
            System.exit(1);
        }
        System.out.println(RUNS + " runs are as the model's");
    }

    private void go() {
        int extremes = random.nextInt(4) == 0 ? 8 : 60;
        if (random.nextInt(8) > 0) {
            feedText(random.nextInt(6) == 0);
        }
        while (calls < CALLS && !wrong) {
            call(random.nextInt(32), extremes);
        }
    }

    private void due(String call, int got, int want) {
        calls++;
        log.append(call).append(" = ").append(got).append('\n');
        if (got != want) {
            wrong = true;
            log.append("   but due is ").append(want).append('\n');
        }
    }

    private void feedText(boolean spoilt) {
        String text = randomText();
        if (spoilt) {
            text = spoil(text);
        }
        for (int i = 0; i < text.length() && calls < CALLS; i++) {
            int letter = text.charAt(i);
            calls++;
            if (real.feed(letter) != plain.feed(letter)) {
                due("feed(" + letter + ")", 0, 1);
            }
        }
        log.append("text ").append(text).append('\n');
        due("bay()", real.bay(), plain.bay());
        due("fault()", real.fault(), plain.fault());
    }

    private String randomText() {
        int width = random.nextInt(3) == 0 ? 2 + random.nextInt(29) : 6 + random.nextInt(8);
        int cheap = random.nextInt(3);
        StringBuilder made = new StringBuilder();
        made.append('b').append(width).append(' ').append(random.nextInt(random.nextBoolean() ? 5 : 21)).append(' ');
        made.append(random.nextInt(11)).append(';');
        int houses = random.nextInt(5) == 0 ? random.nextInt(10) : 4 + random.nextInt(5);
        int firstCell = random.nextInt(width);
        int step = random.nextInt(3) == 0 ? 2 : 1;
        for (int h = 0; h < houses; h++) {
            int cell = random.nextInt(4) > 0 ? (firstCell + h * step) % width : random.nextInt(width);
            int powder = cheap == 0 ? 1 + random.nextInt(9) : 1 + random.nextInt(3);
            made.append(blank()).append('h').append(blank()).append(cell).append(' ').append(powder).append(' ');
            made.append(random.nextInt(10)).append(blank());
            int stars = 1 + random.nextInt(5);
            for (int i = 0; i < stars; i++) {
                made.append((char) ('a' + random.nextInt(random.nextBoolean() ? 5 : 3)));
            }
            made.append(blank()).append(';');
            if (random.nextInt(6) == 0) {
                made.append('m').append(random.nextInt(10)).append(';');
            }
            if (random.nextInt(6) == 0) {
                made.append('g').append(random.nextInt(101)).append(blank()).append(';');
            }
        }
        return made.toString();
    }

    private String blank() {
        return random.nextInt(8) == 0 ? " " : "";
    }

    private String spoil(String text) {
        StringBuilder made = new StringBuilder(text);
        int times = 1 + random.nextInt(2);
        for (int i = 0; i < times && made.length() > 0; i++) {
            int at = random.nextInt(made.length());
            String letters = "bhmg;0123456789abcdef  ";
            char letter = letters.charAt(random.nextInt(letters.length()));
            switch (random.nextInt(4)) {
                case 0 -> made.deleteCharAt(at);
                case 1 -> made.insert(at, letter);
                case 2 -> made.setCharAt(at, letter);
                default -> made.setLength(at);
            }
        }
        return made.toString();
    }

    private int number(int least, int most, int extremes) {
        if (random.nextInt(extremes) == 0) {
            int[] odd = {Integer.MIN_VALUE, Integer.MAX_VALUE, -1, least - 1, most + 1, 31, 32, 256, -2};
            return odd[random.nextInt(odd.length)];
        }
        return least + random.nextInt(most - least + 1);
    }

    private int house(int extremes) {
        return number(0, Math.max(0, real.told(3) - 1), extremes);
    }

    private int set(int extremes) {
        return number(0, (1 << real.told(3)) - 1, extremes);
    }

    private void call(int kind, int extremes) {
        if (kind < 13) {
            change(kind, extremes);
        } else {
            look(kind, extremes);
        }
    }

    private void change(int kind, int extremes) {
        int n;
        switch (kind) {
            case 0, 1, 2, 3, 4 -> {
                n = house(extremes);
                due("light(" + n + ")", real.light(n), plain.light(n));
            }
            case 5, 6 -> {
                n = number(1, random.nextInt(6) == 0 ? 99 : 2, extremes);
                due("minute(" + n + ")", real.minute(n), plain.minute(n));
            }
            case 7 -> {
                n = number(0, random.nextBoolean() ? 20 : 6, extremes);
                due("fog(" + n + ")", real.fog(n), plain.fog(n));
            }
            case 8 -> {
                n = number(-5, 5, extremes);
                due("wind(" + n + ")", real.wind(n), plain.wind(n));
            }
            case 9 -> {
                n = number(1, random.nextInt(6) == 0 ? 99 : 3, extremes);
                due("drift(" + n + ")", real.drift(n), plain.drift(n));
            }
            case 10 -> due("undo()", real.undo(), plain.undo());
            case 11 -> changeImage(extremes);
            default -> {
                if (random.nextInt(60) == 0) {
                    feedText(random.nextBoolean());
                } else {
                    n = number(0, Integer.MAX_VALUE - 1, extremes);
                    due("seed(" + n + ")", real.seed(n), plain.seed(n));
                }
            }
        }
    }

    private void changeImage(int extremes) {
        int i = number(0, 1, extremes);
        if (random.nextInt(3) == 0) {
            due("keep(" + i + ")", real.keep(i), plain.keep(i));
        } else if (random.nextInt(2) == 0) {
            due("goBack(" + i + ")", real.goBack(i), plain.goBack(i));
        } else if (random.nextInt(3) == 0) {
            due("tear()", real.tear(), plain.tear());
        }
    }

    private void look(int kind, int extremes) {
        int a = house(extremes);
        int b = house(extremes);
        int set = set(extremes);
        int n;
        switch (kind) {
            case 13, 14 -> {
                n = number(0, 12, extremes);
                due("told(" + n + ")", real.told(n), plain.told(n));
            }
            case 15, 16 -> {
                n = number(0, 7, extremes);
                due("house(" + a + ", " + n + ")", real.house(a, n), plain.house(a, n));
            }
            case 17 -> due("sees(" + a + ", " + b + ")", real.sees(a, b), plain.sees(a, b));
            case 18, 19 -> due("contract(" + a + ", " + b + ")", real.contract(a, b), plain.contract(a, b));
            case 20, 21 -> {
                n = number(0, 5, extremes);
                due("order(" + set + ", " + n + ")", real.order(set, n), plain.order(set, n));
            }
            case 22 -> due("signers(" + a + ")", real.signers(a), plain.signers(a));
            case 23 -> {
                n = number(0, 1, extremes);
                due("farShore(" + n + ")", real.farShore(n), plain.farShore(n));
            }
            case 24 -> due("cross(" + a + ", " + b + ")", real.cross(a, b), plain.cross(a, b));
            case 25 -> due("treaty(" + set + ")", real.treaty(set), plain.treaty(set));
            case 26 -> lookAtStars(a, extremes);
            case 27 -> due("damp(" + set + ")", real.damp(set), plain.damp(set));
            case 28 -> due("partner(" + a + ")", real.partner(a), plain.partner(a));
            case 29 -> {
                n = number(0, random.nextBoolean() ? 2 : 999, extremes);
                int cell = random.nextBoolean() ? real.house(a, 0) : number(0, Math.max(0, real.told(0) - 1), extremes);
                due("duck(" + n + ", " + cell + ")", real.duck(n, cell), plain.duck(n, cell));
            }
            case 30 -> {
                n = number(-1, 5, extremes);
                due("lit(" + n + ")", real.lit(n), plain.lit(n));
            }
            default -> {
                boolean holds = random.nextInt(4) == 0;
                due("write(" + a + ", " + b + ", " + holds + ")", real.write(a, b, holds), plain.write(a, b, holds));
                due("judge()", real.judge(), plain.judge());
            }
        }
    }

    private void lookAtStars(int h, int extremes) {
        int stars = 0;
        for (int i = random.nextInt(6); i >= 0; i--) {
            stars = stars * 10 + number(1, 5, 40);
        }
        if (random.nextBoolean()) {
            stars = Math.max(1, real.house(h, 4)) + (random.nextBoolean() ? 0 : 1);
        }
        int what = number(0, 1, extremes);
        due("forged(" + h + ", " + stars + ", " + what + ")", real.forged(h, stars, what), plain.forged(h, stars, what));
    }
}
