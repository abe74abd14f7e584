/**
 * An inn in which whoever's name is in the tale that is told must by dawn have done what it says.
 * The words in capitals in the document are kept here as plain words.
 */
public final class SupperTales {
    public static final int UNKNOWN = -1, OUTSIDE = -2, STATE = -3, FULL = -4, NONE = -9;

    private static final int MOST_LETTERS = 24;
    private static final int LAST_LETTER = 255;
    private static final int GUEST_LETTERS = 4;
    private static final int DEED_LETTERS = 3;

    private static final int MOST_GUESTS = 5;
    private static final int NAMES = 4;
    private static final int TALES = 3;
    private static final int SLOTS = 2;
    private static final int MOST_ACTS = 12;
    private static final int MOST_SEEN = 6;
    private static final int MOST_ROUNDS = 60;
    private static final int MOST_NIGHTS = 40;
    private static final int MOST_CHOSEN = 4;
    private static final int ALL_ODDS = 10;

    private static final int KILLS = 0, WEDS = 1, GIVES = 2, TAKES = 3;
    private static final int END_DEAD = 0, END_WED = 1, END_COINS = 2, END_NAME = 3;

    // A deed is one number, so that counting up from 0 goes through the deeds in the document's order.
    private static final int DEEDS_OF_A_KIND = NAMES * NAMES;
    private static final int DEEDS = 4 * DEEDS_OF_A_KIND;

    private static final int PROVERB = 1, UNFINISHED = 2, HARMLESS = 4, DEADLY = 8, DEAR = 16;

    // What is seen of a guest is a number of coins, or one of these two, which no number of coins can be.
    private static final int SEEN_DEAD = 1000, SEEN_ALIVE = 1001;
    private static final int MOST_COINS_SEEN = 50;

    private static final int MOST_COINS_TOLD = 20;
    private static final int COINS_BASE = 100, SUM_BASE = 1000, WORTH_OF_LIFE = 20;

    private static final long SEED_FACTOR = 6364136223846793005L, SEED_STEP = 1442695040888963407L;

    private final Scroll text = new Scroll();
    private final Scroll[] tales = new Scroll[TALES];
    private final House present = new House();
    private final House supposed = new House();
    private final Telling night = new Telling();
    private final Search search = new Search();
    private final Chooser chooser = new Chooser();
    private final Shelf acts = new Shelf(MOST_ACTS);
    private final Shelf slots = new Shelf(SLOTS);
    private final Shelf rounds = new Shelf(MOST_ROUNDS);
    private final Sights sights = new Sights();
    private final int[] tenths = new int[TALES];
    private final int[] firstMeans = new int[NAMES * NAMES];
    private final int[] otherMeans = new int[NAMES * NAMES];
    private int actsHeld;
    private int slotsHeld;
    private long seedNow;

    public SupperTales() {
        for (int tale = 0; tale < tales.length; tale++) {
            tales[tale] = new Scroll();
        }
        tenths[0] = ALL_ODDS;
    }

    // ---- the inn, the tales

    public int write(int letter) {
        if (!isLetter(letter)) {
            return OUTSIDE;
        }
        return text.isFull() ? FULL : text.add(letter);
    }

    public int wipe() {
        return text.empty();
    }

    public int fault() {
        return text.innFault();
    }

    public int inn() {
        if (text.innFault() != NONE) {
            return STATE;
        }
        present.settle(text);
        actsHeld = 0;
        slotsHeld = 0;
        return present.size();
    }

    public int quill(int tale, int letter) {
        if (!isTale(tale)) {
            return UNKNOWN;
        }
        if (!isLetter(letter)) {
            return OUTSIDE;
        }
        return tales[tale].isFull() ? FULL : tales[tale].add(letter);
    }

    public int blot(int tale) {
        return isTale(tale) ? tales[tale].empty() : UNKNOWN;
    }

    public int slip(int tale) {
        return isTale(tale) ? tales[tale].taleFault() : UNKNOWN;
    }

    public int guest(int guest, int what) {
        if (!present.has(guest)) {
            return UNKNOWN;
        }
        switch (what) {
            case 0:
                return present.nameOf(guest);
            case 1:
                return present.purseOf(guest) + COINS_BASE;
            case 2:
                return present.powerOf(guest);
            case 3:
                return present.lives(guest) ? 1 : 0;
            case 4:
                return present.spouseOf(guest);
            default:
                return OUTSIDE;
        }
    }

    public int bears(int name) {
        return isName(name) ? present.bearing(name) : OUTSIDE;
    }

    // ---- acts

    public int tell(int tale) {
        if (!isTale(tale)) {
            return UNKNOWN;
        }
        holdAct();
        night.hearAll(present, tales[tale]);
        present.becomeDawnOf(night.house);
        return night.done;
    }

    public int give(int guest, int name) {
        if (!present.has(guest)) {
            return UNKNOWN;
        }
        if (!isName(name)) {
            return OUTSIDE;
        }
        int was = present.nameOf(guest);
        if (!present.lives(guest) || was == name) {
            return STATE;
        }
        holdAct();
        present.rename(guest, name);
        return was;
    }

    public int undo() {
        if (actsHeld == 0) {
            return STATE;
        }
        actsHeld--;
        acts.fetch(actsHeld, present);
        return actsHeld;
    }

    // ---- tales

    public int would(int tale, int what) {
        if (!isTale(tale)) {
            return UNKNOWN;
        }
        if (what < 0 || what > 3) {
            return OUTSIDE;
        }
        night.hearAll(present, tales[tale]);
        switch (what) {
            case 0:
                return night.done;
            case 1:
                return night.fines;
            case 2:
                return night.house.dead();
            default:
                return night.house.coinsOfAll() + SUM_BASE;
        }
    }

    public int coins(int tale, int guest) {
        if (!isTale(tale) || !present.has(guest)) {
            return UNKNOWN;
        }
        night.hearAll(present, tales[tale]);
        return night.house.purseOf(guest) + COINS_BASE;
    }

    public int shortest(int guest, int end, int v) {
        int refusal = refusalOfEnd(guest, end, v);
        if (refusal != 0) {
            return refusal;
        }
        search.seek(present, guest, end, v);
        return search.length;
    }

    public int shortestAt(int guest, int end, int v, int i) {
        if (i < 0) {
            return OUTSIDE;
        }
        int refusal = refusalOfEnd(guest, end, v);
        if (refusal != 0) {
            return refusal;
        }
        search.seek(present, guest, end, v);
        if (i >= search.length) {
            return NONE;
        }
        int deed = i == 0 ? search.first : search.second;
        return 100 * kindOf(deed) + 10 * firstNameOf(deed) + secondNameOf(deed);
    }

    public int cut(int tale) {
        if (!isTale(tale)) {
            return UNKNOWN;
        }
        int whole = tales[tale].wholeDeeds();
        int all = (1 << whole) - 1;
        int best = all;
        for (int set = 0; set <= all; set++) {
            if (Integer.bitCount(set) < Integer.bitCount(best) && isDoneWithout(tales[tale], set)) {
                best = set;
            }
        }
        return best;
    }

    public int chosen(int tale, boolean all) {
        if (!isTale(tale)) {
            return UNKNOWN;
        }
        if (tales[tale].wholeDeeds() > MOST_CHOSEN) {
            return STATE;
        }
        return chooser.deadBy(present, tales[tale], all);
    }

    public int round(int tale) {
        if (!isTale(tale)) {
            return UNKNOWN;
        }
        supposed.copyFrom(present);
        for (int past = 1; past <= MOST_ROUNDS; past++) {
            rounds.put(past - 1, supposed);
            night.hearAll(supposed, tales[tale]);
            supposed.becomeDawnOf(night.house);
            int earlier = rounds.firstLike(supposed, past);
            if (earlier != NONE) {
                return 100 * earlier + past;
            }
        }
        return NONE;
    }

    public int kinds(int tale) {
        if (!isTale(tale)) {
            return UNKNOWN;
        }
        Scroll told = tales[tale];
        night.hearAll(present, told);
        int bits = isProverb(told) ? PROVERB : 0;
        bits |= told.taleFault() == told.length() ? UNFINISHED : 0;
        bits |= night.house.isLike(present) ? HARMLESS : 0;
        bits |= night.house.dead() != present.dead() ? DEADLY : 0;
        bits |= night.fines > 0 ? DEAR : 0;
        return bits;
    }

    // ---- names to give

    public int odds(int a, int b, int c) {
        if (!isTenths(a) || !isTenths(b) || !isTenths(c) || a + b + c != ALL_ODDS) {
            return OUTSIDE;
        }
        int was = tenths[0];
        tenths[0] = a;
        tenths[1] = b;
        tenths[2] = c;
        return was;
    }

    public int mean(int guest, int name) {
        if (!present.has(guest)) {
            return UNKNOWN;
        }
        if (!isName(name)) {
            return OUTSIDE;
        }
        if (!present.lives(guest)) {
            return STATE;
        }
        supposed.copyFrom(present);
        supposed.rename(guest, name);
        return meanAsSupposed(guest) + SUM_BASE;
    }

    public int toGive(int guest) {
        if (!present.has(guest)) {
            return UNKNOWN;
        }
        if (!present.lives(guest)) {
            return STATE;
        }
        supposed.copyFrom(present);
        int best = NONE;
        int bestMean = 0;
        for (int name = 0; name < NAMES; name++) {
            supposed.rename(guest, name);
            int itsMean = meanAsSupposed(guest);
            if (best == NONE || itsMean > bestMean) {
                best = name;
                bestMean = itsMean;
            }
        }
        return best;
    }

    public int rests(int guest, int other, int what) {
        if (!present.has(guest) || !present.has(other)) {
            return UNKNOWN;
        }
        if (guest == other || what < 0 || what > 1) {
            return OUTSIDE;
        }
        if (!present.lives(guest) || !present.lives(other)) {
            return STATE;
        }
        supposed.copyFrom(present);
        for (int pair = 0; pair < firstMeans.length; pair++) {
            supposed.rename(guest, pair / NAMES);
            supposed.rename(other, pair % NAMES);
            firstMeans[pair] = meanAsSupposed(guest);
            otherMeans[pair] = meanAsSupposed(other);
        }
        return what == 0 ? restsInAll() : firstRest();
    }

    // ---- seen, nights

    public int see(int guest, boolean dead) {
        if (!present.has(guest)) {
            return UNKNOWN;
        }
        return sights.isFull() ? FULL : sights.add(guest, dead ? SEEN_DEAD : SEEN_ALIVE);
    }

    public int seeCoins(int guest, int n) {
        if (!present.has(guest)) {
            return UNKNOWN;
        }
        if (n < -MOST_COINS_SEEN || n > MOST_COINS_SEEN) {
            return OUTSIDE;
        }
        return sights.isFull() ? FULL : sights.add(guest, n);
    }

    public int unsee() {
        return sights.empty();
    }

    public int which() {
        return talesThatFit();
    }

    public int likely(int tale, boolean upper) {
        if (!isTale(tale)) {
            return UNKNOWN;
        }
        int fitting = talesThatFit();
        int together = 0;
        for (int each = 0; each < TALES; each++) {
            together += holds(fitting, each) ? tenths[each] : 0;
        }
        if (together <= 0) {
            return STATE;
        }
        int own = holds(fitting, tale) ? tenths[tale] : 0;
        return inLeastTerms(upper ? own : together, own, together);
    }

    public long seed(long v) {
        long was = seedNow;
        seedNow = v;
        return was;
    }

    public int nights(int m) {
        if (m < 1 || m > MOST_NIGHTS) {
            return OUTSIDE;
        }
        supposed.copyFrom(present);
        for (int past = 0; past < m; past++) {
            night.hearAll(supposed, tales[drawTale()]);
            supposed.becomeDawnOf(night.house);
        }
        return supposed.living();
    }

    // ---- slots

    public int keep(int slot) {
        if (!isSlot(slot)) {
            return UNKNOWN;
        }
        slots.put(slot, present);
        slotsHeld |= 1 << slot;
        return Integer.bitCount(present.living());
    }

    public int again(int slot) {
        if (!isSlot(slot)) {
            return UNKNOWN;
        }
        if (!holds(slotsHeld, slot)) {
            return STATE;
        }
        slots.fetch(slot, present);
        actsHeld = 0;
        return Integer.bitCount(present.living());
    }

    public int count(int what) {
        switch (what) {
            case 0:
                return text.length();
            case 1:
                return present.size();
            case 2:
                return present.nightsPast();
            case 3:
                return present.living();
            case 4:
                return present.wedded();
            case 5:
                return present.coinsOfAll() + SUM_BASE;
            case 6:
                return actsHeld;
            case 7:
                return sights.size;
            case 8:
                return present.namesBorne();
            case 9:
                return lettersOfTales();
            default:
                return OUTSIDE;
        }
    }

    // ---- what the calls share

    private static boolean isLetter(int letter) {
        return letter >= 0 && letter <= LAST_LETTER;
    }

    private static boolean isTale(int tale) {
        return tale >= 0 && tale < TALES;
    }

    private static boolean isSlot(int slot) {
        return slot >= 0 && slot < SLOTS;
    }

    private static boolean isName(int name) {
        return name >= 0 && name < NAMES;
    }

    private static boolean isTenths(int part) {
        return part >= 0 && part <= ALL_ODDS;
    }

    private static boolean holds(int bits, int place) {
        return (bits >> place & 1) != 0;
    }

    private static int leastOf(int bits) {
        for (int guest = 0; guest < MOST_GUESTS; guest++) {
            if (holds(bits, guest)) {
                return guest;
            }
        }
        return NONE;
    }

    private static int kindOf(int deed) {
        return deed / DEEDS_OF_A_KIND;
    }

    private static int firstNameOf(int deed) {
        return deed / NAMES % NAMES;
    }

    private static int secondNameOf(int deed) {
        return deed % NAMES;
    }

    private static int inLeastTerms(int part, int above, int below) {
        for (int divisor = below; divisor > 1; divisor--) {
            if (above % divisor == 0 && below % divisor == 0) {
                return part / divisor;
            }
        }
        return part;
    }

    private void holdAct() {
        if (actsHeld == MOST_ACTS) {
            acts.dropFirst();
            actsHeld--;
        }
        acts.put(actsHeld, present);
        actsHeld++;
    }

    private int refusalOfEnd(int guest, int end, int v) {
        if (!isEndTold(end, v)) {
            return OUTSIDE;
        }
        return present.has(guest) ? 0 : UNKNOWN;
    }

    private boolean isEndTold(int end, int v) {
        switch (end) {
            case END_DEAD:
                return true;
            case END_WED:
                return present.has(v);
            case END_COINS:
                return v >= 0 && v <= MOST_COINS_TOLD;
            case END_NAME:
                return isName(v);
            default:
                return false;
        }
    }

    private boolean isDoneWithout(Scroll tale, int set) {
        night.begin(present);
        int whole = tale.wholeDeeds();
        int others = 0;
        for (int place = 0; place < whole; place++) {
            if (!holds(set, place)) {
                night.hear(tale.deedAt(place), place);
                others |= 1 << place;
            }
        }
        return night.done == others;
    }

    private boolean isProverb(Scroll tale) {
        int borne = present.namesBorne();
        int whole = tale.wholeDeeds();
        for (int place = 0; place < whole; place++) {
            int deed = tale.deedAt(place);
            if (holds(borne, firstNameOf(deed)) || holds(borne, secondNameOf(deed))) {
                return false;
            }
        }
        return true;
    }

    private int meanAsSupposed(int guest) {
        int together = 0;
        for (int tale = 0; tale < TALES; tale++) {
            night.hearAll(supposed, tales[tale]);
            together += tenths[tale] * night.house.worthOf(guest);
        }
        return together;
    }

    private boolean isRest(int first, int second) {
        int pair = first * NAMES + second;
        for (int name = 0; name < NAMES; name++) {
            boolean firstStays = firstMeans[name * NAMES + second] <= firstMeans[pair];
            boolean otherStays = otherMeans[first * NAMES + name] <= otherMeans[pair];
            if (!firstStays || !otherStays) {
                return false;
            }
        }
        return true;
    }

    private int restsInAll() {
        int found = 0;
        for (int pair = 0; pair < NAMES * NAMES; pair++) {
            found += isRest(pair / NAMES, pair % NAMES) ? 1 : 0;
        }
        return found;
    }

    private int firstRest() {
        for (int pair = 0; pair < NAMES * NAMES; pair++) {
            if (isRest(pair / NAMES, pair % NAMES)) {
                return 10 * (pair / NAMES) + pair % NAMES;
            }
        }
        return NONE;
    }

    private int talesThatFit() {
        int bits = 0;
        for (int tale = 0; tale < TALES; tale++) {
            night.hearAll(present, tales[tale]);
            bits |= sights.fit(night.house) ? 1 << tale : 0;
        }
        return bits;
    }

    private int drawTale() {
        seedNow = seedNow * SEED_FACTOR + SEED_STEP;
        int drawn = (int) ((seedNow >>> 33) % ALL_ODDS);
        if (drawn < tenths[0]) {
            return 0;
        }
        return drawn < tenths[0] + tenths[1] ? 1 : 2;
    }

    private int lettersOfTales() {
        int together = 0;
        for (int tale = 0; tale < tales.length; tale++) {
            together += tales[tale].length();
        }
        return together;
    }

    /** A row of letters: the text of an inn, or a tale. */
    private static final class Scroll {
        private final int[] letters = new int[MOST_LETTERS];
        private int size;

        int length() {
            return size;
        }

        boolean isFull() {
            return size >= letters.length;
        }

        int add(int letter) {
            if (!isFull()) {
                letters[size] = letter;
                size++;
            }
            return size;
        }

        int empty() {
            int was = size;
            size = 0;
            return was;
        }

        int letterAt(int place) {
            return place >= 0 && place < size ? letters[place] : NONE;
        }

        int innFault() {
            for (int place = 0; place < size; place++) {
                if (!fitsInn(place, letterAt(place))) {
                    return place;
                }
            }
            return size % GUEST_LETTERS == 1 ? NONE : size;
        }

        int taleFault() {
            int sound = soundInTale();
            return sound == size && size % DEED_LETTERS == 0 ? NONE : sound;
        }

        int wholeDeeds() {
            return soundInTale() / DEED_LETTERS;
        }

        /** To be asked of whole deeds alone. */
        int deedAt(int place) {
            int at = place * DEED_LETTERS;
            int kind = kindOfLetter(letterAt(at));
            return kind * DEEDS_OF_A_KIND + (letterAt(at + 1) - 'a') * NAMES + letterAt(at + 2) - 'a';
        }

        private int soundInTale() {
            for (int place = 0; place < size; place++) {
                if (!fitsTale(place, letterAt(place))) {
                    return place;
                }
            }
            return size;
        }

        private static boolean fitsInn(int place, int letter) {
            if (place == 0) {
                return letter == 'I';
            }
            if (place > MOST_GUESTS * GUEST_LETTERS) {
                return false;
            }
            switch (place % GUEST_LETTERS) {
                case 1:
                    return letter == 'G';
                case 2:
                    return isNameLetter(letter);
                case 3:
                    return letter >= '0' && letter <= '9';
                default:
                    return letter >= '0' && letter <= '3';
            }
        }

        private static boolean fitsTale(int place, int letter) {
            return place % DEED_LETTERS == 0 ? kindOfLetter(letter) != NONE : isNameLetter(letter);
        }

        private static boolean isNameLetter(int letter) {
            return letter >= 'a' && letter <= 'd';
        }

        private static int kindOfLetter(int letter) {
            switch (letter) {
                case 'k':
                    return KILLS;
                case 'w':
                    return WEDS;
                case 'g':
                    return GIVES;
                case 't':
                    return TAKES;
                default:
                    return NONE;
            }
        }
    }

    /** The guests and the nights past. All that acts can change is one row of cells, so that it is kept in one go. */
    private static final class House {
        private static final int NAME = 0, PURSE = MOST_GUESTS, SPOUSE = 2 * MOST_GUESTS;
        private static final int LIVING = 3 * MOST_GUESTS, NIGHTS = LIVING + 1, CELLS = NIGHTS + 1;

        private final int[] cells = new int[CELLS];
        private final int[] powers = new int[MOST_GUESTS];
        private int guests;

        void settle(Scroll text) {
            guests = Math.min((text.length() - 1) / GUEST_LETTERS, MOST_GUESTS);
            for (int guest = 0; guest < guests; guest++) {
                int at = guest * GUEST_LETTERS + 1;
                cells[NAME + guest] = text.letterAt(at + 1) - 'a';
                cells[PURSE + guest] = text.letterAt(at + 2) - '0';
                cells[SPOUSE + guest] = NONE;
                powers[guest] = text.letterAt(at + 3) - '0';
            }
            cells[LIVING] = everyone();
            cells[NIGHTS] = 0;
        }

        void copyFrom(House other) {
            System.arraycopy(other.cells, 0, cells, 0, CELLS);
            System.arraycopy(other.powers, 0, powers, 0, MOST_GUESTS);
            guests = other.guests;
        }

        void becomeDawnOf(House night) {
            copyFrom(night);
            cells[NIGHTS]++;
        }

        int size() {
            return guests;
        }

        boolean has(int guest) {
            return guest >= 0 && guest < guests;
        }

        int nameOf(int guest) {
            return has(guest) ? cells[NAME + guest] : NONE;
        }

        int purseOf(int guest) {
            return has(guest) ? cells[PURSE + guest] : 0;
        }

        int spouseOf(int guest) {
            return has(guest) ? cells[SPOUSE + guest] : NONE;
        }

        int powerOf(int guest) {
            return has(guest) ? powers[guest] : 0;
        }

        boolean lives(int guest) {
            return has(guest) && holds(cells[LIVING], guest);
        }

        int worthOf(int guest) {
            return lives(guest) ? purseOf(guest) + WORTH_OF_LIFE : 0;
        }

        int everyone() {
            return (1 << guests) - 1;
        }

        int living() {
            return cells[LIVING];
        }

        int dead() {
            return everyone() & ~cells[LIVING];
        }

        int nightsPast() {
            return cells[NIGHTS];
        }

        int wedded() {
            int bits = 0;
            for (int guest = 0; guest < guests; guest++) {
                bits |= cells[SPOUSE + guest] != NONE ? 1 << guest : 0;
            }
            return bits;
        }

        int coinsOfAll() {
            int together = 0;
            for (int guest = 0; guest < guests; guest++) {
                together += cells[PURSE + guest];
            }
            return together;
        }

        int bearing(int name) {
            int bits = 0;
            for (int guest = 0; guest < guests; guest++) {
                bits |= cells[NAME + guest] == name ? 1 << guest : 0;
            }
            return bits & cells[LIVING];
        }

        int namesBorne() {
            int bits = 0;
            for (int name = 0; name < NAMES; name++) {
                bits |= bearing(name) != 0 ? 1 << name : 0;
            }
            return bits;
        }

        void rename(int guest, int name) {
            if (has(guest)) {
                cells[NAME + guest] = name;
            }
        }

        void payFine(int guest) {
            if (has(guest)) {
                cells[PURSE + guest]--;
            }
        }

        boolean handCoin(int guest, int other) {
            if (!has(guest) || !has(other) || cells[PURSE + guest] <= 0) {
                return false;
            }
            cells[PURSE + guest]--;
            cells[PURSE + other]++;
            return true;
        }

        boolean join(int guest, int other) {
            if (!has(guest) || !has(other) || cells[SPOUSE + guest] != NONE || cells[SPOUSE + other] != NONE) {
                return false;
            }
            cells[SPOUSE + guest] = other;
            cells[SPOUSE + other] = guest;
            return true;
        }

        void bury(int guest) {
            if (!has(guest)) {
                return;
            }
            int widowed = cells[SPOUSE + guest];
            if (has(widowed)) {
                cells[SPOUSE + widowed] = NONE;
            }
            cells[SPOUSE + guest] = NONE;
            cells[LIVING] &= ~(1 << guest);
        }

        /** Like it in all but the nights past. */
        boolean isLike(House other) {
            return guests == other.guests && isLikeRow(other.cells, 0);
        }

        boolean isLikeRow(int[] row, int from) {
            if (from < 0 || from > row.length - CELLS) {
                return false;
            }
            for (int guest = 0; guest < guests; guest++) {
                if (cells[NAME + guest] != row[from + NAME + guest]
                        || cells[PURSE + guest] != row[from + PURSE + guest]
                        || cells[SPOUSE + guest] != row[from + SPOUSE + guest]) {
                    return false;
                }
            }
            return cells[LIVING] == row[from + LIVING];
        }

        void copyToRow(int[] row, int from) {
            if (from >= 0 && from <= row.length - CELLS) {
                System.arraycopy(cells, 0, row, from, CELLS);
            }
        }

        void copyFromRow(int[] row, int from) {
            if (from >= 0 && from <= row.length - CELLS) {
                System.arraycopy(row, from, cells, 0, CELLS);
            }
        }
    }

    /** Places at which a house is kept as it was; all of one inn, so that guests' powers need not be kept. */
    private static final class Shelf {
        private final int[] row;

        Shelf(int places) {
            row = new int[Math.max(places, 1) * House.CELLS];
        }

        void put(int place, House house) {
            house.copyToRow(row, place * House.CELLS);
        }

        void fetch(int place, House house) {
            house.copyFromRow(row, place * House.CELLS);
        }

        int firstLike(House house, int places) {
            for (int place = 0; place < places; place++) {
                if (house.isLikeRow(row, place * House.CELLS)) {
                    return place;
                }
            }
            return NONE;
        }

        void dropFirst() {
            System.arraycopy(row, House.CELLS, row, 0, row.length - House.CELLS);
        }
    }

    /** A night in which a tale is told, on a house of its own. */
    private static final class Telling {
        private final House house = new House();
        private final int[] left = new int[MOST_GUESTS];
        private int done;
        private int fines;

        void begin(House evening) {
            house.copyFrom(evening);
            for (int guest = 0; guest < left.length; guest++) {
                left[guest] = house.powerOf(guest);
            }
            done = 0;
            fines = 0;
        }

        void copyFrom(Telling other) {
            house.copyFrom(other.house);
            System.arraycopy(other.left, 0, left, 0, left.length);
            done = other.done;
            fines = other.fines;
        }

        void hearAll(House evening, Scroll tale) {
            begin(evening);
            int whole = tale.wholeDeeds();
            for (int place = 0; place < whole; place++) {
                hear(tale.deedAt(place), place);
            }
        }

        void hear(int deed, int place) {
            int doers = doersOf(deed);
            if (doers == 0) {
                failWithoutDoer(deed);
                return;
            }
            int doer = leastOf(doers);
            int others = othersOf(deed, doer);
            if (others == 0) {
                fine(doer);
            } else {
                attempt(deed, place, doer, leastOf(others));
            }
        }

        int doersOf(int deed) {
            int bits = house.bearing(firstNameOf(deed));
            for (int guest = 0; guest < left.length; guest++) {
                if (left[guest] <= 0) {
                    bits &= ~(1 << guest);
                }
            }
            return bits;
        }

        int othersOf(int deed, int doer) {
            return house.bearing(secondNameOf(deed)) & ~(1 << doer);
        }

        void failWithoutDoer(int deed) {
            int bearers = house.bearing(firstNameOf(deed));
            if (bearers != 0) {
                fine(leastOf(bearers));
            }
        }

        void attempt(int deed, int place, int doer, int other) {
            boolean able = true;
            switch (kindOf(deed)) {
                case KILLS:
                    house.bury(other);
                    break;
                case WEDS:
                    able = house.join(doer, other);
                    break;
                case GIVES:
                    able = house.handCoin(doer, other);
                    break;
                default:
                    house.rename(doer, secondNameOf(deed));
                    break;
            }
            if (able && house.has(doer)) {
                left[doer]--;
                done |= 1 << place;
            } else {
                fine(doer);
            }
        }

        void fine(int guest) {
            house.payFine(guest);
            fines++;
        }
    }

    /** The search for the shortest tale that brings an end: its deeds, of which there are length. */
    private static final class Search {
        private final Telling now = new Telling();
        private final Telling behindFirst = new Telling();
        private final Telling behindLast = new Telling();
        private int length;
        private int first;
        private int second;

        void seek(House house, int guest, int end, int v) {
            now.begin(house);
            if (isEnd(house, guest, end, v)) {
                length = 0;
                return;
            }
            first = lastDeedBehind(now, guest, end, v);
            if (first != NONE) {
                length = 1;
                return;
            }
            for (int deed = 0; deed < DEEDS; deed++) {
                behindFirst.copyFrom(now);
                behindFirst.hear(deed, 0);
                second = lastDeedBehind(behindFirst, guest, end, v);
                if (second != NONE) {
                    first = deed;
                    length = 2;
                    return;
                }
            }
            length = NONE;
        }

        /**
         * Only a deed of the end's own kind (k for dead, w for wed, g for coins, t for a name) makes it so where it
         * was not; and where it was so already, a shorter tale was found before.
         */
        private int lastDeedBehind(Telling before, int guest, int end, int v) {
            int from = end * DEEDS_OF_A_KIND;
            for (int deed = from; deed < from + DEEDS_OF_A_KIND; deed++) {
                behindLast.copyFrom(before);
                behindLast.hear(deed, 1);
                if (isEnd(behindLast.house, guest, end, v)) {
                    return deed;
                }
            }
            return NONE;
        }

        private static boolean isEnd(House house, int guest, int end, int v) {
            switch (end) {
                case END_DEAD:
                    return !house.lives(guest);
                case END_WED:
                    return house.spouseOf(guest) == v;
                case END_COINS:
                    return house.purseOf(guest) >= v;
                default:
                    return house.nameOf(guest) == v;
            }
        }
    }

    /** Goes through all choices of doers and others, deed by deed. */
    private static final class Chooser {
        private final Telling[] steps = new Telling[MOST_CHOSEN + 1];
        private boolean all;
        private int deadBySome;
        private int deadByAll;
        private int deadBefore;

        Chooser() {
            for (int step = 0; step < steps.length; step++) {
                steps[step] = new Telling();
            }
        }

        int deadBy(House now, Scroll tale, boolean byAllChoices) {
            all = byAllChoices;
            deadBefore = now.dead();
            deadBySome = deadBefore;
            deadByAll = now.everyone();
            steps[0].begin(now);
            follow(tale, deedsToLastKilling(tale), 0);
            return all ? deadByAll : deadBySome;
        }

        /** Behind the last killing nobody dies any more, whoever is meant. */
        private static int deedsToLastKilling(Scroll tale) {
            int deeds = Math.min(tale.wholeDeeds(), MOST_CHOSEN);
            int needed = 0;
            for (int place = 0; place < deeds; place++) {
                if (kindOf(tale.deedAt(place)) == KILLS) {
                    needed = place + 1;
                }
            }
            return needed;
        }

        /** Further choices can't change the answer then. */
        private boolean isSettled() {
            return all ? deadByAll == deadBefore : deadBySome == steps[0].house.everyone();
        }

        private void follow(Scroll tale, int deeds, int depth) {
            if (depth >= deeds || depth + 1 >= steps.length) {
                deadBySome |= steps[depth].house.dead();
                deadByAll &= steps[depth].house.dead();
                return;
            }
            int deed = tale.deedAt(depth);
            int doers = steps[depth].doersOf(deed);
            if (doers == 0) {
                steps[depth + 1].copyFrom(steps[depth]);
                steps[depth + 1].failWithoutDoer(deed);
                follow(tale, deeds, depth + 1);
            }
            for (int doer = 0; doer < MOST_GUESTS && !isSettled(); doer++) {
                if (holds(doers, doer)) {
                    followDoer(tale, deeds, depth, doer);
                }
            }
        }

        private void followDoer(Scroll tale, int deeds, int depth, int doer) {
            int deed = tale.deedAt(depth);
            Telling next = steps[depth + 1];
            int others = steps[depth].othersOf(deed, doer);
            if (others == 0) {
                next.copyFrom(steps[depth]);
                next.fine(doer);
                follow(tale, deeds, depth + 1);
            }
            for (int other = 0; other < MOST_GUESTS && !isSettled(); other++) {
                if (holds(others, other)) {
                    next.copyFrom(steps[depth]);
                    next.attempt(deed, depth, doer, other);
                    follow(tale, deeds, depth + 1);
                }
            }
        }
    }

    /** What was seen at dawn. */
    private static final class Sights {
        private final int[] guests = new int[MOST_SEEN];
        private final int[] facts = new int[MOST_SEEN];
        private int size;

        boolean isFull() {
            return size >= MOST_SEEN;
        }

        int add(int guest, int fact) {
            if (!isFull()) {
                guests[size] = guest;
                facts[size] = fact;
                size++;
            }
            return size;
        }

        int empty() {
            int was = size;
            size = 0;
            return was;
        }

        /** What was seen of guests that a later inn has not is passed over. */
        boolean fit(House dawn) {
            for (int place = 0; place < size; place++) {
                if (dawn.has(guests[place]) && !isSo(dawn, guests[place], facts[place])) {
                    return false;
                }
            }
            return true;
        }

        private static boolean isSo(House dawn, int guest, int fact) {
            if (fact == SEEN_DEAD) {
                return !dawn.lives(guest);
            }
            if (fact == SEEN_ALIVE) {
                return dawn.lives(guest);
            }
            return dawn.purseOf(guest) == fact;
        }
    }
}
