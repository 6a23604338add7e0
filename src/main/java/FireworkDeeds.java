/** Contracts along a bay, signed by fireworks. The promises are those of the document, DOC.md. */
public final class FireworkDeeds {
    public static final int NONE = -1, UNKNOWN = -1000000001, OUTSIDE = -1000000002, NOT = -1000000003, FULL = -1000000004;

    private static final int MOST_LETTERS = 230;
    private static final int MOST_HOUSES = 8;
    private static final int MOST_STARS = 5;
    private static final int MOST_IN_ORDER = 6;
    private static final int MOST_DUCKS = 6;
    private static final int MOST_ENTRIES = 15;
    private static final int MOST_UNDONE = 20;
    private static final int IMAGES = 2;
    private static final int GREEN = 3;
    private static final int CHEAP = 2;
    private static final int LAST_MINUTE = 90000;
    private static final int BILLION = 1000000000;

    private final int[] text;
    private int letters;
    private int faultAt;
    private Bay shore;
    private Bay spare;
    private int seed;
    private final Reader reader;
    private final Night now;
    private final Past past;
    private final Night[] images;
    private final boolean[] imageKept;
    private final int[] imageSeed;
    private final Row row;
    private final Offers offers;
    private final Ducks ducks;
    private final Book book;

    public FireworkDeeds() {
        text = new int[MOST_LETTERS];
        letters = 0;
        faultAt = NONE;
        shore = new Bay();
        spare = new Bay();
        seed = 0;
        reader = new Reader();
        now = new Night();
        now.begin(shore);
        past = new Past();
        images = new Night[IMAGES];
        for (int i = 0; i < IMAGES; i++) {
            images[i] = new Night();
        }
        imageKept = new boolean[IMAGES];
        imageSeed = new int[IMAGES];
        row = new Row();
        offers = new Offers();
        ducks = new Ducks();
        book = new Book();
    }

    // ---- the bay

    public int feed(int letter) {
        if (letter < 0 || letter > 255) {
            return OUTSIDE;
        }
        if (letters >= MOST_LETTERS) {
            return FULL;
        }
        text[letters] = letter;
        letters++;
        return letters;
    }

    public int bay() {
        int fault = reader.read(text, letters, spare);
        letters = 0;
        if (fault != 0) {
            faultAt = reader.faultAt;
            return -10 - fault;
        }
        faultAt = NONE;
        Bay left = shore;
        shore = spare;
        spare = left;
        now.begin(shore);
        past.clear();
        for (int i = 0; i < IMAGES; i++) {
            imageKept[i] = false;
        }
        ducks.count = 0;
        book.count = 0;
        return shore.count;
    }

    public int fault() {
        return faultAt;
    }

    public int told(int what) {
        switch (what) {
            case 0: return shore.width;
            case 1: return now.fog;
            case 2: return now.wind;
            case 3: return shore.count;
            case 4: return shore.smoke;
            case 5: return shore.dampPercent;
            case 6: return letters;
            case 7: return now.minutes;
            case 8: return Integer.bitCount(now.holds);
            case 9: return now.conditionals(shore);
            case 10: return ducks.count;
            case 11: return book.count;
            case 12: return past.count;
            default: return OUTSIDE;
        }
    }

    public int house(int h, int what) {
        if (!shore.has(h)) {
            return UNKNOWN;
        }
        switch (what) {
            case 0: return shore.cell[h];
            case 1: return shore.powder[h];
            case 2: return now.rockets[h];
            case 3: return Stars.count(shore.stars[h]);
            case 4: return shore.stars[h];
            case 5: return now.signedAt[h];
            case 6: return now.signedOver[h];
            case 7: return shore.readAs(h);
            default: return OUTSIDE;
        }
    }

    public int sees(int k, int h) {
        if (!shore.hasTwo(k, h)) {
            return UNKNOWN;
        }
        return (now.viewers(shore, h) >> k) & 1;
    }

    public int contract(int a, int b) {
        if (!shore.hasTwo(a, b)) {
            return UNKNOWN;
        }
        if (!now.holdsFor(a, b)) {
            return 0;
        }
        return shore.anyGreen(a, b) ? 2 : 1;
    }

    // ---- what is done

    public int light(int h) {
        if (!shore.has(h)) {
            return UNKNOWN;
        }
        if (now.rockets[h] <= 0 || now.signedAt[h] == now.minutes) {
            return NOT;
        }
        past.push(now);
        now.rockets[h]--;
        now.sign(shore, h);
        return now.agree(shore, h);
    }

    public int minute(int n) {
        int refusal = refusalOfMinutes(n);
        if (refusal != 0) {
            return refusal;
        }
        past.push(now);
        now.minutes += n;
        return now.minutes;
    }

    public int fog(int f) {
        if (f < 0 || f > 20) {
            return OUTSIDE;
        }
        if (shore.width == 0) {
            return NOT;
        }
        past.push(now);
        int was = now.fog;
        now.fog = f;
        return was;
    }

    public int wind(int d) {
        if (d < -5 || d > 5) {
            return OUTSIDE;
        }
        if (shore.width == 0) {
            return NOT;
        }
        past.push(now);
        int was = now.wind;
        now.wind = d;
        return was + 5;
    }

    public int drift(int n) {
        int refusal = refusalOfMinutes(n);
        if (refusal != 0) {
            return refusal;
        }
        past.push(now);
        for (int i = 0; i < n; i++) {
            changeWeather();
            now.minutes++;
        }
        return now.minutes;
    }

    public int undo() {
        if (past.count == 0) {
            return NOT;
        }
        past.pop(now);
        return past.count;
    }

    // ---- tried

    public int order(int set, int i) {
        if (!shore.hasAll(set)) {
            return UNKNOWN;
        }
        int size = Integer.bitCount(set);
        if (size > MOST_IN_ORDER) {
            return OUTSIDE;
        }
        if (i < 0 || i >= size || !row.find(shore, now, set)) {
            return NONE;
        }
        return row.houses[i];
    }

    public int signers(int h) {
        if (!shore.has(h)) {
            return UNKNOWN;
        }
        int set = 0;
        for (int g = 0; g < shore.count; g++) {
            if (shore.readAs(g) == h) {
                set |= 1 << g;
            }
        }
        return set;
    }

    public int farShore(int what) {
        if (what != 0 && what != 1) {
            return OUTSIDE;
        }
        int set = 0;
        for (int h = 0; h < shore.count; h++) {
            int taken = shore.houseOfStars(Stars.fromTheEnd(shore.stars[h]));
            boolean wanted = what == 1 ? taken == h : taken != NONE && taken != h;
            if (wanted) {
                set |= 1 << h;
            }
        }
        return set;
    }

    public int cross(int a, int b) {
        if (!shore.hasTwo(a, b)) {
            return UNKNOWN;
        }
        if (shore.apart(a, b) != 2) {
            return NONE;
        }
        return shore.houseOn(Math.min(shore.cell[a], shore.cell[b]) + 1);
    }

    public int treaty(int set) {
        if (!shore.hasAll(set)) {
            return UNKNOWN;
        }
        int more = 0;
        for (int h = 0; h < shore.count; h++) {
            if ((set >> h & 1) == 1) {
                more += now.lackOfPowder(shore, h, set);
            }
        }
        return more;
    }

    public int forged(int h, int stars, int what) {
        if (!shore.has(h)) {
            return UNKNOWN;
        }
        if (!Stars.areStars(stars) || what < 0 || what > 1) {
            return OUTSIDE;
        }
        int unlike = Stars.unlike(shore.stars[h], stars);
        if (what == 0) {
            return unlike;
        }
        int places = Math.max(Stars.count(shore.stars[h]), Stars.count(stars));
        return cutOdds(cutOdds(BILLION, 90, places - unlike), 10, unlike);
    }

    public int damp(int set) {
        if (!shore.hasAll(set)) {
            return UNKNOWN;
        }
        int odds = BILLION;
        for (int h = 0; h < shore.count; h++) {
            if ((set >> h & 1) == 1) {
                odds = cutOdds(odds, 100 - shore.dampPercent, Stars.greens(shore.stars[h]));
            }
        }
        return odds;
    }

    public int partner(int h) {
        if (!shore.has(h)) {
            return UNKNOWN;
        }
        offers.settle(shore, now);
        return offers.taken[h];
    }

    // ---- what was seen

    public int duck(int minute, int cell) {
        if (minute < 0 || minute > 999 || cell < 0 || cell >= shore.width) {
            return OUTSIDE;
        }
        if (ducks.count >= MOST_DUCKS) {
            return FULL;
        }
        ducks.add(minute, cell);
        return ducks.count;
    }

    public int lit(int k) {
        if (k == NONE) {
            return ducks.ways(shore, now);
        }
        if (k < 0 || k >= ducks.count) {
            return NONE;
        }
        return now.housesOver(shore, ducks.cell[k]);
    }

    public int write(int a, int b, boolean holds) {
        if (!shore.hasTwo(a, b)) {
            return UNKNOWN;
        }
        if (book.count >= MOST_ENTRIES) {
            return FULL;
        }
        book.add(a, b, holds);
        return book.count;
    }

    public int tear() {
        int had = ducks.count + book.count;
        ducks.count = 0;
        book.count = 0;
        return had;
    }

    public int judge() {
        return book.firstWrong(now);
    }

    // ---- draws, images

    public int seed(int v) {
        if (v < 0) {
            return OUTSIDE;
        }
        int was = seed;
        seed = v;
        return was;
    }

    public int keep(int i) {
        if (i < 0 || i >= IMAGES) {
            return UNKNOWN;
        }
        images[i].become(now);
        imageSeed[i] = seed;
        imageKept[i] = true;
        past.clear();
        return 1;
    }

    public int goBack(int i) {
        if (i < 0 || i >= IMAGES) {
            return UNKNOWN;
        }
        if (!imageKept[i]) {
            return NOT;
        }
        now.become(images[i]);
        seed = imageSeed[i];
        past.clear();
        return 1;
    }

    /** 0 if n minutes may pass now. */
    private int refusalOfMinutes(int n) {
        if (n < 1 || n > 99) {
            return OUTSIDE;
        }
        if (shore.width == 0) {
            return NOT;
        }
        return now.minutes > LAST_MINUTE ? FULL : 0;
    }

    private void changeWeather() {
        int kind = draw(3);
        if (kind == 0) {
            now.fog = draw(21);
        } else if (kind == 1) {
            now.wind = draw(11) - 5;
        }
    }

    private int draw(int n) {
        seed = (int) ((seed * 1103515245L + 12345L) & 0x7fffffffL);
        return n < 1 ? 0 : seed / 65536 % n;
    }

    private static int cutOdds(int odds, int percent, int times) {
        long left = odds;
        for (int i = 0; i < times; i++) {
            left = left * percent / 100;
        }
        return (int) left;
    }

    /** Rows of stars as numbers: a figure 1 .. 5 for each star a .. e. */
    private static final class Stars {
        static boolean areStars(int number) {
            if (number < 1 || number > 99999) {
                return false;
            }
            for (int left = number; left > 0; left /= 10) {
                int star = left % 10;
                if (star < 1 || star > 5) {
                    return false;
                }
            }
            return true;
        }

        static int count(int stars) {
            int places = 0;
            for (int left = stars; left > 0; left /= 10) {
                places++;
            }
            return places;
        }

        static int greens(int stars) {
            int green = 0;
            for (int left = stars; left > 0; left /= 10) {
                if (left % 10 == GREEN) {
                    green++;
                }
            }
            return green;
        }

        static int fromTheEnd(int stars) {
            int turned = 0;
            for (int left = stars; left > 0; left /= 10) {
                turned = turned * 10 + left % 10;
            }
            return turned;
        }

        static int unlike(int one, int other) {
            // places count from the first star, which is the last figure of a turned number
            int a = fromTheEnd(one);
            int b = fromTheEnd(other);
            int places = 0;
            for (int i = 0; i < MOST_STARS; i++) {
                if (a % 10 != b % 10) {
                    places++;
                }
                a /= 10;
                b /= 10;
            }
            return places;
        }
    }

    /** What the text tells: it stays as it is till the next text. */
    private static final class Bay {
        int width;
        int firstFog;
        int firstWind;
        int smoke;
        int dampPercent;
        int count;
        final int[] cell = new int[MOST_HOUSES];
        final int[] powder = new int[MOST_HOUSES];
        final int[] firstRockets = new int[MOST_HOUSES];
        final int[] stars = new int[MOST_HOUSES];

        Bay() {
            empty();
        }

        void empty() {
            width = 0;
            firstFog = 0;
            firstWind = 0;
            smoke = 2;
            dampPercent = 10;
            count = 0;
        }

        void settle(int onCell, int withPowder, int withRockets, int withStars) {
            if (count >= MOST_HOUSES) {
                return;
            }
            cell[count] = onCell;
            powder[count] = withPowder;
            firstRockets[count] = withRockets;
            stars[count] = withStars;
            count++;
        }

        boolean has(int h) {
            return h >= 0 && h < count;
        }

        boolean hasTwo(int a, int b) {
            return has(a) && has(b) && a != b;
        }

        boolean hasAll(int set) {
            return set >= 0 && set < 1 << count;
        }

        int apart(int a, int b) {
            return Math.abs(cell[a] - cell[b]);
        }

        int houseOn(int place) {
            for (int h = 0; h < count; h++) {
                if (cell[h] == place) {
                    return h;
                }
            }
            return NONE;
        }

        int houseOfStars(int told) {
            for (int h = 0; h < count; h++) {
                if (stars[h] == told) {
                    return h;
                }
            }
            return NONE;
        }

        boolean anyGreen(int a, int b) {
            return Stars.greens(stars[a]) + Stars.greens(stars[b]) > 0;
        }

        int readAs(int h) {
            if (powder[h] > CHEAP) {
                return h;
            }
            int next = h;
            for (int g = 0; g < count; g++) {
                if (cell[g] > cell[h] && (next == h || cell[g] < cell[next])) {
                    next = g;
                }
            }
            return next;
        }
    }

    /** Reads a text into a bay, up to its first fault. */
    private static final class Reader {
        private static final int CANNOT_STAND = 1;
        private static final int NO_SUCH_NUMBER = 2;
        private static final int AGAIN = 3;
        private static final int TAKEN = 4;

        private int[] text = new int[0];
        private int length;
        private int at;
        private int numberAt;
        private int faultNumber;
        private int faultAt;
        private boolean smokeTold;
        private boolean dampTold;

        /** The number of the fault, which is at faultAt then; 0 if there is none. */
        int read(int[] letters, int many, Bay bay) {
            text = letters;
            length = Math.min(many, letters.length);
            at = 0;
            faultNumber = 0;
            faultAt = NONE;
            smokeTold = false;
            dampTold = false;
            bay.empty();
            skipBlanks();
            for (int clauses = 0; clauses < MOST_LETTERS && at < length && faultNumber == 0; clauses++) {
                readClause(bay);
                skipBlanks();
            }
            return faultNumber;
        }

        private void readClause(Bay bay) {
            int word = text[at];
            if (word != 'b' && bay.width == 0) {
                fail(CANNOT_STAND, at);
                return;
            }
            switch (word) {
                case 'b':
                    readCells(bay);
                    break;
                case 'h':
                    readHouse(bay);
                    break;
                case 'm':
                    readSmoke(bay);
                    break;
                case 'g':
                    readDamp(bay);
                    break;
                default:
                    fail(CANNOT_STAND, at);
                    break;
            }
        }

        private void readCells(Bay bay) {
            passWord(bay.width > 0);
            int width = readNumber(2, 30);
            int fog = readNumber(0, 20);
            int wind = readNumber(0, 10);
            passEnd();
            if (faultNumber == 0) {
                bay.width = width;
                bay.firstFog = fog;
                bay.firstWind = wind - 5;
            }
        }

        private void readHouse(Bay bay) {
            passWord(bay.count >= MOST_HOUSES);
            int cell = readNumber(0, bay.width - 1);
            if (bay.houseOn(cell) != NONE) {
                fail(TAKEN, numberAt);
            }
            int powder = readNumber(1, 9);
            int rockets = readNumber(0, 9);
            int stars = readStars(bay);
            passEnd();
            if (faultNumber == 0) {
                bay.settle(cell, powder, rockets, stars);
            }
        }

        private void readSmoke(Bay bay) {
            passWord(smokeTold);
            int smoke = readNumber(0, 9);
            passEnd();
            if (faultNumber == 0) {
                bay.smoke = smoke;
                smokeTold = true;
            }
        }

        private void readDamp(Bay bay) {
            passWord(dampTold);
            int percent = readNumber(0, 100);
            passEnd();
            if (faultNumber == 0) {
                bay.dampPercent = percent;
                dampTold = true;
            }
        }

        private void passWord(boolean again) {
            if (again) {
                fail(AGAIN, at);
            }
            at++;
        }

        private void passEnd() {
            skipBlanks();
            if (at >= length || text[at] != ';') {
                fail(CANNOT_STAND, at);
                return;
            }
            at++;
        }

        /** The number that comes next; NONE, with a fault, if none within its bounds does. */
        private int readNumber(int least, int most) {
            if (faultNumber != 0) {
                return NONE;
            }
            skipBlanks();
            numberAt = at;
            int value = 0;
            while (at < length && text[at] >= '0' && text[at] <= '9') {
                value = value * 10 + text[at] - '0';
                at++;
            }
            int figures = at - numberAt;
            if (figures == 0) {
                fail(CANNOT_STAND, at);
                return NONE;
            }
            if (figures > 3 || value < least || value > most) {
                fail(NO_SUCH_NUMBER, numberAt);
                return NONE;
            }
            return value;
        }

        private int readStars(Bay bay) {
            if (faultNumber != 0) {
                return NONE;
            }
            skipBlanks();
            int first = at;
            int stars = 0;
            while (at < length && text[at] >= 'a' && text[at] <= 'e' && at - first < MOST_STARS) {
                stars = stars * 10 + text[at] - 'a' + 1;
                at++;
            }
            if (at == first || at < length && text[at] >= 'a' && text[at] <= 'e') {
                fail(CANNOT_STAND, at);
            } else if (bay.houseOfStars(stars) != NONE) {
                fail(TAKEN, first);
            }
            return stars;
        }

        private void skipBlanks() {
            while (at < length && text[at] == ' ') {
                at++;
            }
        }

        // what is read goes from left to right, so the first fault that is met is the one to tell
        private void fail(int number, int place) {
            if (faultNumber == 0) {
                faultNumber = number;
                faultAt = place;
            }
        }
    }

    /** All that can be undone or kept in an image, but for the seed. */
    private static final class Night {
        int minutes;
        int fog;
        int wind;
        /** A bit for each two houses whose contract holds. */
        int holds;
        final int[] rockets = new int[MOST_HOUSES];
        final int[] signedAt = new int[MOST_HOUSES];
        final int[] signedOver = new int[MOST_HOUSES];
        /** Who saw a house's latest rocket as it was lit: sets. */
        final int[] seenBy = new int[MOST_HOUSES];

        void begin(Bay bay) {
            minutes = 0;
            fog = bay.firstFog;
            wind = bay.firstWind;
            holds = 0;
            for (int h = 0; h < MOST_HOUSES; h++) {
                rockets[h] = h < bay.count ? bay.firstRockets[h] : 0;
                signedAt[h] = NONE;
                signedOver[h] = NONE;
                seenBy[h] = 0;
            }
        }

        void become(Night other) {
            minutes = other.minutes;
            fog = other.fog;
            wind = other.wind;
            holds = other.holds;
            for (int h = 0; h < MOST_HOUSES; h++) {
                rockets[h] = other.rockets[h];
                signedAs(h, other);
            }
        }

        void signedAs(int h, Night other) {
            signedAt[h] = other.signedAt[h];
            signedOver[h] = other.signedOver[h];
            seenBy[h] = other.seenBy[h];
        }

        int cellOver(Bay bay, int h) {
            return Math.max(0, Math.min(bay.width - 1, bay.cell[h] + wind));
        }

        int housesOver(Bay bay, int cell) {
            int set = 0;
            for (int h = 0; h < bay.count; h++) {
                if (cellOver(bay, h) == cell) {
                    set |= 1 << h;
                }
            }
            return set;
        }

        int reach(Bay bay, int h) {
            return bay.powder[h] + 3 - fog / 2;
        }

        /** Those near enough to see a rocket of h, if it is not hidden. */
        int inReach(Bay bay, int h) {
            int over = cellOver(bay, h);
            int reach = reach(bay, h);
            int set = 0;
            for (int k = 0; k < bay.count; k++) {
                if (k != h && Math.abs(bay.cell[k] - over) <= reach) {
                    set |= 1 << k;
                }
            }
            return set;
        }

        boolean hidden(Bay bay, int h) {
            int over = cellOver(bay, h);
            for (int g = 0; g < bay.count; g++) {
                boolean there = g != h && signedAt[g] != NONE && signedOver[g] == over;
                if (there && minutes - signedAt[g] <= bay.smoke) {
                    return true;
                }
            }
            return false;
        }

        int viewers(Bay bay, int h) {
            return hidden(bay, h) ? 0 : inReach(bay, h);
        }

        void sign(Bay bay, int h) {
            seenBy[h] = viewers(bay, h);
            signedAt[h] = minutes;
            signedOver[h] = cellOver(bay, h);
        }

        /** Lets the contracts hold that come of h's rocket, just lit: how many are new. */
        int agree(Bay bay, int h) {
            int before = Integer.bitCount(holds);
            for (int g = 0; g < bay.count; g++) {
                if (g != h && signedAt[g] != NONE && minutes - signedAt[g] <= 1) {
                    meet(bay, h, g);
                }
            }
            return Integer.bitCount(holds) - before;
        }

        private void meet(Bay bay, int h, int g) {
            int a = bay.readAs(h);
            int b = bay.readAs(g);
            int concerned = 1 << h | 1 << g | 1 << a | 1 << b;
            if (a != b && (seenBy[h] & seenBy[g] & ~concerned) != 0) {
                holds |= pairBit(a, b);
            }
        }

        boolean holdsFor(int a, int b) {
            return (holds & pairBit(a, b)) != 0;
        }

        int conditionals(Bay bay) {
            int many = 0;
            for (int b = 1; b < bay.count; b++) {
                for (int a = 0; a < b; a++) {
                    if (holdsFor(a, b) && bay.anyGreen(a, b)) {
                        many++;
                    }
                }
            }
            return many;
        }

        int lackOfPowder(Bay bay, int h, int set) {
            int over = cellOver(bay, h);
            int farthest = NONE;
            for (int k = 0; k < bay.count; k++) {
                if (k != h && (set >> k & 1) == 1) {
                    farthest = Math.max(farthest, Math.abs(bay.cell[k] - over));
                }
            }
            // without another one of the set nobody must see it, whatever the fog
            return farthest == NONE ? 0 : Math.max(0, farthest - reach(bay, h));
        }

        // the pairs 01, 02, 12, 03, .. have a bit each: 28 for eight houses
        private static int pairBit(int a, int b) {
            int greater = Math.max(a, b);
            return 1 << greater * (greater - 1) / 2 + Math.min(a, b);
        }
    }

    /** What can be undone, the oldest lost beyond MOST_UNDONE: a ring. */
    private static final class Past {
        private final Night[] nights = new Night[MOST_UNDONE];
        private int next;
        int count;

        Past() {
            for (int i = 0; i < MOST_UNDONE; i++) {
                nights[i] = new Night();
            }
        }

        void clear() {
            next = 0;
            count = 0;
        }

        void push(Night night) {
            nights[next].become(night);
            next = next + 1 < MOST_UNDONE ? next + 1 : 0;
            count = Math.min(count + 1, MOST_UNDONE);
        }

        void pop(Night night) {
            if (count == 0) {
                return;
            }
            next = next > 0 ? next - 1 : MOST_UNDONE - 1;
            count--;
            night.become(nights[next]);
        }
    }

    /** The search for an order in which a set of houses should sign. */
    private static final class Row {
        final int[] houses = new int[MOST_IN_ORDER];
        private final Night tried = new Night();

        boolean find(Bay bay, Night now, int set) {
            for (int h = 0; h < bay.count; h++) {
                // wind and fog stay, so who is too far away now is so at each place of the row
                if ((set >> h & 1) == 1 && Integer.bitCount(now.inReach(bay, h)) < 2) {
                    return false;
                }
            }
            tried.become(now);
            return extend(bay, now, set, 0);
        }

        private boolean extend(Bay bay, Night now, int left, int place) {
            if (left == 0) {
                return true;
            }
            if (place >= MOST_IN_ORDER) {
                return false;
            }
            for (int h = 0; h < bay.count; h++) {
                tried.minutes = now.minutes + place;
                if ((left >> h & 1) == 1 && fits(bay, h, place)) {
                    houses[place] = h;
                    tried.sign(bay, h);
                    if (extend(bay, now, left & ~(1 << h), place + 1)) {
                        return true;
                    }
                    tried.signedAs(h, now);
                }
            }
            return false;
        }

        private boolean fits(Bay bay, int h, int place) {
            if (place > 0 && bay.apart(houses[place - 1], h) == 1) {
                return false;
            }
            return !tried.hidden(bay, h);
        }
    }

    /** Even houses ask odd ones, till nobody asks any more. */
    private static final class Offers {
        final int[] taken = new int[MOST_HOUSES];
        /** By whom each was refused: sets. */
        private final int[] refusedBy = new int[MOST_HOUSES];

        void settle(Bay bay, Night night) {
            for (int h = 0; h < MOST_HOUSES; h++) {
                taken[h] = NONE;
                refusedBy[h] = 0;
            }
            // each round but the last one has an asker, and nobody asks the same one twice
            boolean asked = true;
            for (int round = 0; round < MOST_HOUSES * MOST_HOUSES && asked; round++) {
                asked = askAll(bay, night);
            }
        }

        private boolean askAll(Bay bay, Night night) {
            boolean asked = false;
            for (int h = 0; h < bay.count; h += 2) {
                if (night.rockets[h] > 0 && taken[h] == NONE) {
                    int nearest = nearestToAsk(bay, night, h);
                    if (nearest != NONE) {
                        ask(bay, h, nearest);
                        asked = true;
                    }
                }
            }
            return asked;
        }

        private int nearestToAsk(Bay bay, Night night, int h) {
            int nearest = NONE;
            for (int g = 1; g < bay.count; g += 2) {
                boolean open = night.rockets[g] > 0 && (refusedBy[h] >> g & 1) == 0;
                if (open && (nearest == NONE || bay.apart(h, g) < bay.apart(h, nearest))) {
                    nearest = g;
                }
            }
            return nearest;
        }

        private void ask(Bay bay, int h, int g) {
            int other = taken[g];
            if (other == NONE) {
                pair(h, g);
            } else if (isNearer(bay, g, h, other)) {
                taken[other] = NONE;
                refusedBy[other] |= 1 << g;
                pair(h, g);
            } else {
                refusedBy[h] |= 1 << g;
            }
        }

        private void pair(int h, int g) {
            taken[h] = g;
            taken[g] = h;
        }

        private static boolean isNearer(Bay bay, int g, int h, int other) {
            int far = bay.apart(g, h);
            int otherFar = bay.apart(g, other);
            return far < otherFar || far == otherFar && h < other;
        }
    }

    /** What ducks tell. */
    private static final class Ducks {
        int count;
        final int[] minute = new int[MOST_DUCKS];
        final int[] cell = new int[MOST_DUCKS];

        void add(int atMinute, int overCell) {
            if (count >= MOST_DUCKS) {
                return;
            }
            minute[count] = atMinute;
            cell[count] = overCell;
            count++;
        }

        // a house is over one cell only, so it can be twice at a minute only where minute and cell are alike
        int ways(Bay bay, Night night) {
            int ways = 1;
            for (int k = 0; k < count; k++) {
                int houses = Integer.bitCount(night.housesOver(bay, cell[k]));
                ways *= Math.max(0, houses - alikeAhead(k));
            }
            return ways;
        }

        private int alikeAhead(int k) {
            int alike = 0;
            for (int i = 0; i < k; i++) {
                if (minute[i] == minute[k] && cell[i] == cell[k]) {
                    alike++;
                }
            }
            return alike;
        }
    }

    /** What is told of contracts. */
    private static final class Book {
        int count;
        private final int[] first = new int[MOST_ENTRIES];
        private final int[] second = new int[MOST_ENTRIES];
        private final boolean[] toldToHold = new boolean[MOST_ENTRIES];

        void add(int a, int b, boolean holds) {
            if (count >= MOST_ENTRIES) {
                return;
            }
            first[count] = a;
            second[count] = b;
            toldToHold[count] = holds;
            count++;
        }

        int firstWrong(Night night) {
            for (int i = 0; i < count; i++) {
                if (night.holdsFor(first[i], second[i]) != toldToHold[i]) {
                    return i;
                }
            }
            return NONE;
        }
    }
}
