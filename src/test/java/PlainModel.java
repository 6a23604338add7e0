import java.util.ArrayList;
import java.util.HashMap;
import java.util.HashSet;
import java.util.List;
import java.util.Map;
import java.util.Set;

/**
 * The document told a second time, slowly and by other means than the class: all rockets ever lit are kept,
 * rows are listed whole, ways are tried one by one. It is there to be compared with.
 */
final class PlainModel {
    static final int NONE = -1;
    static final int UNKNOWN = -1000000001;
    static final int OUTSIDE = -1000000002;
    static final int NOT = -1000000003;
    static final int FULL = -1000000004;

    record House(int cell, int powder, int rockets, String stars) {
    }

    record Rocket(int house, int minute, int cell, Set<Integer> seenBy) {
    }

    record Bay(int width, int fog, int wind, int smoke, int damp, List<House> houses) {
    }

    record Told(int minute, int cell) {
    }

    record Entry(int a, int b, boolean holds) {
    }

    /** Section 2: never changed, but copied. */
    record Night(int minute, int fog, int wind, List<Rocket> lit, Set<Set<Integer>> contracts) {
    }

    private String text = "";
    private int faultAt = NONE;
    private Bay bay = new Bay(0, 0, 0, 2, 10, List.of());
    private Night night = new Night(0, 0, 0, List.of(), Set.of());
    private List<Night> past = new ArrayList<>();
    private final Map<Integer, Night> images = new HashMap<>();
    private final Map<Integer, Long> imageSeeds = new HashMap<>();
    private long seed = 0;
    private final List<Told> ducks = new ArrayList<>();
    private final List<Entry> book = new ArrayList<>();

    int feed(int letter) {
        if (letter < 0 || letter > 255) {
            return OUTSIDE;
        }
        if (text.length() == 230) {
            return FULL;
        }
        text += (char) letter;
        return text.length();
    }

    // ---- the text: each clause is a list of what is due, and a place either takes its letters or has a fault

    private int place;

    private static final class Fault extends Exception {
        private static final long serialVersionUID = 1L;
        final int number;
        final int at;

        Fault(int number, int at) {
            super("fault");
            this.number = number;
            this.at = at;
        }
    }

    private char next() {
        while (place < text.length() && text.charAt(place) == ' ') {
            place++;
        }
        return place < text.length() ? text.charAt(place) : '\0';
    }

    private boolean ended() {
        next();
        return place == text.length();
    }

    private int number(int least, int most) throws Fault {
        next();
        int from = place;
        String figures = "";
        while (place < text.length() && "0123456789".indexOf(text.charAt(place)) >= 0) {
            figures += text.charAt(place++);
        }
        if (figures.isEmpty()) {
            throw new Fault(1, place);
        }
        if (figures.length() > 3 || Integer.parseInt(figures) < least || Integer.parseInt(figures) > most) {
            throw new Fault(2, from);
        }
        return Integer.parseInt(figures);
    }

    private String stars() throws Fault {
        next();
        int from = place;
        while (place < text.length() && "abcde".indexOf(text.charAt(place)) >= 0) {
            place++;
            if (place - from == 6) {
                throw new Fault(1, place - 1);
            }
        }
        if (place == from) {
            throw new Fault(1, place);
        }
        return text.substring(from, place);
    }

    private Bay parse() throws Fault {
        place = 0;
        Map<Character, List<Integer>> once = new HashMap<>();
        List<House> houses = new ArrayList<>();
        while (!ended()) {
            char word = next();
            int at = place;
            if (once.isEmpty() && word != 'b' || "bhmg".indexOf(word) < 0) {
                throw new Fault(1, at);
            }
            if (once.containsKey(word) || word == 'h' && houses.size() == 8) {
                throw new Fault(3, at);
            }
            place++;
            if (word == 'b') {
                once.put(word, List.of(number(2, 30), number(0, 20), number(0, 10)));
            } else if (word == 'h') {
                houses.add(parseHouse(once.get('b').get(0), houses));
            } else {
                once.put(word, List.of(number(0, word == 'm' ? 9 : 100)));
            }
            if (ended() || next() != ';') {
                throw new Fault(1, place);
            }
            place++;
        }
        List<Integer> cells = once.getOrDefault('b', List.of(0, 0, 5));
        return new Bay(cells.get(0), cells.get(1), cells.get(2) - 5, once.getOrDefault('m', List.of(2)).get(0),
            once.getOrDefault('g', List.of(10)).get(0), houses);
    }

    private House parseHouse(int width, List<House> others) throws Fault {
        next();
        int at = place;
        int cell = number(0, width - 1);
        for (House other : others) {
            if (other.cell == cell) {
                throw new Fault(4, at);
            }
        }
        int powder = number(1, 9);
        int rockets = number(0, 9);
        next();
        at = place;
        String stars = stars();
        for (House other : others) {
            if (other.stars.equals(stars)) {
                throw new Fault(4, at);
            }
        }
        return new House(cell, powder, rockets, stars);
    }

    int bay() {
        Bay parsed;
        try {
            parsed = parse();
        } catch (Fault fault) {
            faultAt = fault.at;
            text = "";
            return -10 - fault.number;
        }
        text = "";
        faultAt = NONE;
        bay = parsed;
        night = new Night(0, bay.fog, bay.wind, List.of(), Set.of());
        past.clear();
        images.clear();
        ducks.clear();
        book.clear();
        return bay.houses.size();
    }

    int fault() {
        return faultAt;
    }

    int told(int what) {
        int conditional = 0;
        for (Set<Integer> two : night.contracts) {
            conditional += green(two) ? 1 : 0;
        }
        int[] all = {bay.width, night.fog, night.wind, bay.houses.size(), bay.smoke, bay.damp, text.length(), night.minute,
            night.contracts.size(), conditional, ducks.size(), book.size(), past.size()};
        return what < 0 || what >= all.length ? OUTSIDE : all[what];
    }

    int house(int h, int what) {
        if (unknown(h)) {
            return UNKNOWN;
        }
        House house = bay.houses.get(h);
        Rocket latest = latest(night, h);
        int[] all = {house.cell, house.powder, rocketsLeft(h), house.stars.length(), figures(house.stars),
            latest == null ? NONE : latest.minute, latest == null ? NONE : latest.cell, readAs(h)};
        return what < 0 || what >= all.length ? OUTSIDE : all[what];
    }

    int sees(int k, int h) {
        if (unknown(k) || unknown(h) || k == h) {
            return UNKNOWN;
        }
        return seenBy(night, h).contains(k) ? 1 : 0;
    }

    int contract(int a, int b) {
        if (unknown(a) || unknown(b) || a == b) {
            return UNKNOWN;
        }
        Set<Integer> two = Set.of(a, b);
        return !night.contracts.contains(two) ? 0 : green(two) ? 2 : 1;
    }

    int light(int h) {
        if (unknown(h)) {
            return UNKNOWN;
        }
        Rocket latest = latest(night, h);
        if (rocketsLeft(h) == 0 || latest != null && latest.minute == night.minute) {
            return NOT;
        }
        remember();
        Night after = lit(night, h);
        Set<Set<Integer>> contracts = new HashSet<>(night.contracts);
        for (int g = 0; g < bay.houses.size(); g++) {
            Rocket other = latest(after, g);
            if (g == h || other == null || other.minute != night.minute && other.minute != night.minute - 1) {
                continue;
            }
            for (int third = 0; third < bay.houses.size(); third++) {
                boolean concerned = third == h || third == g || third == readAs(h) || third == readAs(g);
                boolean sawBoth = latest(after, h).seenBy.contains(third) && other.seenBy.contains(third);
                if (!concerned && sawBoth && readAs(h) != readAs(g)) {
                    contracts.add(Set.of(readAs(h), readAs(g)));
                }
            }
        }
        int more = contracts.size() - night.contracts.size();
        night = new Night(after.minute, after.fog, after.wind, after.lit, contracts);
        return more;
    }

    int minute(int n) {
        if (n < 1 || n > 99) {
            return OUTSIDE;
        }
        if (bay.width == 0) {
            return NOT;
        }
        if (night.minute > 90000) {
            return FULL;
        }
        remember();
        night = changed(night.minute + n, night.fog, night.wind);
        return night.minute;
    }

    int fog(int f) {
        if (f < 0 || f > 20) {
            return OUTSIDE;
        }
        if (bay.width == 0) {
            return NOT;
        }
        remember();
        int was = night.fog;
        night = changed(night.minute, f, night.wind);
        return was;
    }

    int wind(int d) {
        if (d < -5 || d > 5) {
            return OUTSIDE;
        }
        if (bay.width == 0) {
            return NOT;
        }
        remember();
        int was = night.wind + 5;
        night = changed(night.minute, night.fog, d);
        return was;
    }

    int drift(int n) {
        if (n < 1 || n > 99) {
            return OUTSIDE;
        }
        if (bay.width == 0) {
            return NOT;
        }
        if (night.minute > 90000) {
            return FULL;
        }
        remember();
        for (int i = 0; i < n; i++) {
            int kind = draw(3);
            int fog = kind == 0 ? draw(21) : night.fog;
            int wind = kind == 1 ? draw(11) - 5 : night.wind;
            night = changed(night.minute + 1, fog, wind);
        }
        return night.minute;
    }

    int undo() {
        if (past.isEmpty()) {
            return NOT;
        }
        night = past.remove(past.size() - 1);
        return past.size();
    }

    int order(int set, int i) {
        if (unknownBits(set)) {
            return UNKNOWN;
        }
        List<Integer> houses = members(set);
        if (houses.size() > 6) {
            return OUTSIDE;
        }
        List<List<Integer>> rows = new ArrayList<>();
        listRows(houses, new ArrayList<>(), rows);
        for (List<Integer> row : rows) {
            if (stands(row)) {
                return i >= 0 && i < row.size() ? row.get(i) : NONE;
            }
        }
        return NONE;
    }

    private static void listRows(List<Integer> left, List<Integer> row, List<List<Integer>> rows) {
        if (left.isEmpty()) {
            rows.add(new ArrayList<>(row));
        }
        for (Integer h : left) {
            List<Integer> fewer = new ArrayList<>(left);
            fewer.remove(h);
            row.add(h);
            listRows(fewer, row, rows);
            row.remove(row.size() - 1);
        }
    }

    private boolean stands(List<Integer> row) {
        for (int i = 1; i < row.size(); i++) {
            if (Math.abs(cell(row.get(i)) - cell(row.get(i - 1))) == 1) {
                return false;
            }
        }
        Night tried = night;
        for (int h : row) {
            if (seenBy(tried, h).size() < 2) {
                return false;
            }
            Night after = lit(tried, h);
            tried = new Night(after.minute + 1, after.fog, after.wind, after.lit, after.contracts);
        }
        return true;
    }

    int signers(int h) {
        if (unknown(h)) {
            return UNKNOWN;
        }
        int set = 0;
        for (int g = 0; g < bay.houses.size(); g++) {
            set += readAs(g) == h ? 1 << g : 0;
        }
        return set;
    }

    int farShore(int what) {
        if (what < 0 || what > 1) {
            return OUTSIDE;
        }
        int set = 0;
        for (int h = 0; h < bay.houses.size(); h++) {
            String turned = new StringBuilder(bay.houses.get(h).stars).reverse().toString();
            boolean of = false;
            for (int g = 0; g < bay.houses.size(); g++) {
                of |= (g == h) == (what == 1) && bay.houses.get(g).stars.equals(turned);
            }
            set += of ? 1 << h : 0;
        }
        return set;
    }

    int cross(int a, int b) {
        if (unknown(a) || unknown(b) || a == b) {
            return UNKNOWN;
        }
        for (int h = 0; h < bay.houses.size(); h++) {
            boolean behind = cell(h) - cell(a) == 1 && cell(b) - cell(h) == 1;
            boolean ahead = cell(h) - cell(b) == 1 && cell(a) - cell(h) == 1;
            if (behind || ahead) {
                return h;
            }
        }
        return NONE;
    }

    int treaty(int set) {
        if (unknownBits(set)) {
            return UNKNOWN;
        }
        int sum = 0;
        for (int h : members(set)) {
            int more = 0;
            for (int k : members(set)) {
                while (k != h && Math.abs(cell(k) - over(night, h)) > bay.houses.get(h).powder + more + 3 - night.fog / 2) {
                    more++;
                }
            }
            sum += more;
        }
        return sum;
    }

    int forged(int h, int stars, int what) {
        if (unknown(h)) {
            return UNKNOWN;
        }
        String told = "" + stars;
        if (!told.matches("[1-5]{1,5}") || what < 0 || what > 1) {
            return OUTSIDE;
        }
        String real = "" + figures(bay.houses.get(h).stars);
        int unlike = 0;
        long odds = 1000000000;
        for (int i = 0; i < Math.max(told.length(), real.length()); i++) {
            boolean alike = i < told.length() && i < real.length() && told.charAt(i) == real.charAt(i);
            unlike += alike ? 0 : 1;
            odds = odds * (alike ? 90 : 10) / 100;
        }
        return what == 0 ? unlike : (int) odds;
    }

    int damp(int set) {
        if (unknownBits(set)) {
            return UNKNOWN;
        }
        long odds = 1000000000;
        for (int h : members(set)) {
            for (char star : bay.houses.get(h).stars.toCharArray()) {
                odds = star == 'c' ? odds * (100 - bay.damp) / 100 : odds;
            }
        }
        return (int) odds;
    }

    // the askers come from the greatest on here: what offers come to must not depend on who asks first
    int partner(int h) {
        if (unknown(h)) {
            return UNKNOWN;
        }
        Map<Integer, Integer> taken = new HashMap<>();
        Map<Integer, Set<Integer>> refused = new HashMap<>();
        boolean changed = true;
        while (changed) {
            changed = false;
            for (int asker = bay.houses.size() - 1; asker >= 0; asker--) {
                if (asker % 2 == 1 || rocketsLeft(asker) == 0 || taken.containsValue(asker)) {
                    continue;
                }
                int best = NONE;
                for (int asked = 1; asked < bay.houses.size(); asked += 2) {
                    boolean open = rocketsLeft(asked) > 0 && !refused.getOrDefault(asker, Set.of()).contains(asked);
                    if (open && (best == NONE || rank(asker, asked) < rank(asker, best))) {
                        best = asked;
                    }
                }
                if (best == NONE) {
                    continue;
                }
                changed = true;
                int loser = asker;
                if (!taken.containsKey(best)) {
                    taken.put(best, asker);
                    continue;
                }
                if (rank(best, asker) < rank(best, taken.get(best))) {
                    loser = taken.put(best, asker);
                }
                refused.computeIfAbsent(loser, any -> new HashSet<>()).add(best);
            }
        }
        for (Map.Entry<Integer, Integer> pair : taken.entrySet()) {
            if (pair.getKey() == h) {
                return pair.getValue();
            }
            if (pair.getValue() == h) {
                return pair.getKey();
            }
        }
        return NONE;
    }

    private int rank(int who, int other) {
        return Math.abs(cell(who) - cell(other)) * 10 + other;
    }

    int duck(int minute, int cell) {
        if (minute < 0 || minute > 999 || cell < 0 || cell >= bay.width) {
            return OUTSIDE;
        }
        if (ducks.size() == 6) {
            return FULL;
        }
        ducks.add(new Told(minute, cell));
        return ducks.size();
    }

    int lit(int k) {
        if (k == NONE) {
            return ways(0, new HashSet<>());
        }
        return k < 0 || k >= ducks.size() ? NONE : over(ducks.get(k));
    }

    private int over(Told told) {
        int set = 0;
        for (int h = 0; h < bay.houses.size(); h++) {
            set += over(night, h) == told.cell ? 1 << h : 0;
        }
        return set;
    }

    private int ways(int k, Set<List<Integer>> used) {
        if (k == ducks.size()) {
            return 1;
        }
        int sum = 0;
        for (int h : members(over(ducks.get(k)))) {
            if (used.add(List.of(h, ducks.get(k).minute))) {
                sum += ways(k + 1, used);
                used.remove(List.of(h, ducks.get(k).minute));
            }
        }
        return sum;
    }

    int write(int a, int b, boolean holds) {
        if (unknown(a) || unknown(b) || a == b) {
            return UNKNOWN;
        }
        if (book.size() == 15) {
            return FULL;
        }
        book.add(new Entry(a, b, holds));
        return book.size();
    }

    int tear() {
        int had = ducks.size() + book.size();
        ducks.clear();
        book.clear();
        return had;
    }

    int judge() {
        for (Entry entry : book) {
            if (night.contracts.contains(Set.of(entry.a, entry.b)) != entry.holds) {
                return book.indexOf(entry);
            }
        }
        return NONE;
    }

    int seed(int v) {
        if (v < 0) {
            return OUTSIDE;
        }
        int was = (int) seed;
        seed = v;
        return was;
    }

    int keep(int i) {
        if (i != 0 && i != 1) {
            return UNKNOWN;
        }
        images.put(i, night);
        imageSeeds.put(i, seed);
        past.clear();
        return 1;
    }

    int goBack(int i) {
        if (i != 0 && i != 1) {
            return UNKNOWN;
        }
        if (!images.containsKey(i)) {
            return NOT;
        }
        night = images.get(i);
        seed = imageSeeds.get(i);
        past.clear();
        return 1;
    }

    private boolean unknown(int h) {
        return h < 0 || h >= bay.houses.size();
    }

    private boolean unknownBits(int set) {
        for (int k = 0; k < 32; k++) {
            if ((set >>> k & 1) == 1 && unknown(k)) {
                return true;
            }
        }
        return false;
    }

    private static List<Integer> members(int set) {
        List<Integer> all = new ArrayList<>();
        for (int k = 0; k < 32; k++) {
            if ((set >>> k & 1) == 1) {
                all.add(k);
            }
        }
        return all;
    }

    private int cell(int h) {
        return bay.houses.get(h).cell;
    }

    private boolean green(Set<Integer> houses) {
        for (int h : houses) {
            if (bay.houses.get(h).stars.contains("c")) {
                return true;
            }
        }
        return false;
    }

    private static int figures(String stars) {
        int number = 0;
        for (char star : stars.toCharArray()) {
            number = number * 10 + (star - 'a' + 1);
        }
        return number;
    }

    private int readAs(int h) {
        if (bay.houses.get(h).powder >= 3) {
            return h;
        }
        for (int place = cell(h) + 1; place < bay.width; place++) {
            for (int g = 0; g < bay.houses.size(); g++) {
                if (cell(g) == place) {
                    return g;
                }
            }
        }
        return h;
    }

    private int rocketsLeft(int h) {
        int left = bay.houses.get(h).rockets;
        for (Rocket rocket : night.lit) {
            left -= rocket.house == h ? 1 : 0;
        }
        return left;
    }

    private static Rocket latest(Night in, int h) {
        Rocket found = null;
        for (Rocket rocket : in.lit) {
            found = rocket.house == h ? rocket : found;
        }
        return found;
    }

    private int over(Night in, int h) {
        int place = cell(h) + in.wind;
        return place < 0 ? 0 : place >= bay.width ? bay.width - 1 : place;
    }

    private Set<Integer> seenBy(Night in, int h) {
        Set<Integer> all = new HashSet<>();
        for (int g = 0; g < bay.houses.size(); g++) {
            Rocket other = latest(in, g);
            if (g != h && other != null && other.cell == over(in, h) && in.minute - other.minute <= bay.smoke) {
                return all;
            }
        }
        for (int k = 0; k < bay.houses.size(); k++) {
            if (k != h && Math.abs(cell(k) - over(in, h)) <= bay.houses.get(h).powder + 3 - in.fog / 2) {
                all.add(k);
            }
        }
        return all;
    }

    private Night lit(Night in, int h) {
        List<Rocket> lit = new ArrayList<>(in.lit);
        lit.add(new Rocket(h, in.minute, over(in, h), seenBy(in, h)));
        return new Night(in.minute, in.fog, in.wind, lit, in.contracts);
    }

    private Night changed(int minute, int fog, int wind) {
        return new Night(minute, fog, wind, night.lit, night.contracts);
    }

    private void remember() {
        past.add(night);
        if (past.size() > 20) {
            past.remove(0);
        }
    }

    private int draw(int n) {
        seed = (seed * 1103515245L + 12345L) % 2147483648L;
        return (int) (seed / 65536 % n);
    }
}
