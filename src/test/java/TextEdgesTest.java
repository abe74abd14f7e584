/** The edges of the texts, of the inn and of its guests: Terms 1 up to the telling, promises 1 to 10. */
public final class TextEdgesTest {
    private static final int UNKNOWN = Check.UNKNOWN, OUTSIDE = Check.OUTSIDE, STATE = Check.STATE, FULL = Check.FULL;
    private static final int NONE = Check.NONE, LOWEST = Check.LOWEST, HIGHEST = Check.HIGHEST;
    private static final String FIVE = "IGa00Gb11Gc22Gd33Ga93";

    private final Check check = new Check();

    public static void main(String[] args) {
        TextEdgesTest test = new TextEdgesTest();
        test.constants();
        test.names();
        test.lengths();
        test.inns();
        test.deeds();
        test.faults();
        test.newObject();
        test.newInn();
        test.write();
        test.wipe();
        test.fault();
        test.inn();
        test.quill();
        test.blot();
        test.slip();
        test.guest();
        test.bears();
        test.check.end("TextEdgesTest");
    }

    private void due(String call, long got, long want) {
        check.due(call, got, want);
    }

    private static int faultOf(String letters) {
        SupperTales x = new SupperTales();
        Check.text(x, letters);
        return x.fault();
    }

    private static int slipOf(String letters) {
        SupperTales x = new SupperTales();
        Check.tale(x, 2, letters);
        return x.slip(2);
    }

    private void faultIs(String letters, int want) {
        due("fault of " + letters, faultOf(letters), want);
    }

    private void slipIs(String letters, int want) {
        due("slip of " + letters, slipOf(letters), want);
    }

    private void names() {
        check.says("NAMES are 0 to 3 (letters a to d).");
        SupperTales x = Check.inn("IGa00Gb00Gc00Gd00");
        for (int name = 0; name <= 3; name++) {
            due("name of guest " + name, x.guest(name, 0), name);
            due("bears " + name, x.bears(name), 1 << name);
        }
        faultIs("IG`", 2);
        faultIs("IGa", 3);
        faultIs("IGd", 3);
        faultIs("IGe", 2);
        faultIs("IGA", 2);
        slipIs("k`a", 1);
        slipIs("kaa", NONE);
        slipIs("kdd", NONE);
        slipIs("kea", 1);
        slipIs("ka`", 2);
        slipIs("kae", 2);
        slipIs("kaA", 2);
        due("bears(-1)", x.bears(-1), OUTSIDE);
        due("bears(4)", x.bears(4), OUTSIDE);
        due("give(1, -1)", x.give(1, -1), OUTSIDE);
        due("give(1, 4)", x.give(1, 4), OUTSIDE);
        due("give(1, 0)", x.give(1, 0), 1);
        due("give(1, 3)", x.give(1, 3), 0);
        due("mean(1, -1)", x.mean(1, -1), OUTSIDE);
        due("mean(1, 4)", x.mean(1, 4), OUTSIDE);
        due("mean(1, 0)", x.mean(1, 0), 1200);
        due("mean(1, 3)", x.mean(1, 3), 1200);
        due("shortest(1, 3, -1)", x.shortest(1, 3, -1), OUTSIDE);
        due("shortest(1, 3, 4)", x.shortest(1, 3, 4), OUTSIDE);
        due("shortest(1, 3, 3)", x.shortest(1, 3, 3), 0);
        due("shortest(1, 3, 0)", x.shortest(1, 3, 0), NONE);
    }

    private void lengths() {
        check.says("THE TEXT is letters (24 at most).");
        SupperTales x = new SupperTales();
        for (int i = 1; i <= 24; i++) {
            due("write, the " + i + "th", x.write(i), i);
        }
        due("write, the 25th", x.write(25), FULL);
        due("letters", x.count(0), 24);
        check.says("TALES 0 to 2 are rows of letters (24 at most each; empty at first)");
        for (int tale = 0; tale <= 2; tale++) {
            due("slip(" + tale + ") at first", x.slip(tale), NONE);
            due("blot(" + tale + ") at first", x.blot(tale), 0);
        }
        due("slip(-1)", x.slip(-1), UNKNOWN);
        due("slip(3)", x.slip(3), UNKNOWN);
        for (int tale = 0; tale <= 2; tale++) {
            for (int i = 1; i <= 24; i++) {
                due("quill, the " + i + "th of tale " + tale, x.quill(tale, 'k'), i);
            }
            due("quill, the 25th of tale " + tale, x.quill(tale, 'k'), FULL);
        }
        due("letters of all tales", x.count(9), 72);
    }

    private void inns() {
        check.says("I, then GUESTS, none or more (5 at most, numbered as they are told)");
        for (int guests = 0; guests <= 5; guests++) {
            String letters = FIVE.substring(0, 1 + 4 * guests);
            faultIs(letters, NONE);
            SupperTales x = new SupperTales();
            Check.text(x, letters);
            due("inn of " + letters, x.inn(), guests);
            due("the last guest", guests == 0 ? 1 : x.guest(guests - 1, 3), 1);
            due("none behind it", x.guest(guests, 3), UNKNOWN);
        }
        faultIs(FIVE.concat("G"), 21);
        faultIs(FIVE.concat("Gb1"), 21);
        check.due("numbered as told", Check.guests(Check.inn(FIVE)), "0:a0; 1:b1; 2:c2; 3:d3; 4:a9;");
        check.says("G, NAME (a to d), COINS (0 to 9), POWER (0 to 3)");
        faultIs("IF", 1);
        faultIs("IG", 2);
        faultIs("IH", 1);
        faultIs("IGa/", 3);
        faultIs("IGa0", 4);
        faultIs("IGa9", 4);
        faultIs("IGa:", 3);
        faultIs("IGa0/", 4);
        faultIs("IGa00", NONE);
        faultIs("IGa03", NONE);
        faultIs("IGa04", 4);
        for (int coins = 0; coins <= 9; coins++) {
            due("coins " + coins, Check.inn("IGa" + coins + "0").guest(0, 1), 100 + coins);
        }
        for (int power = 0; power <= 3; power++) {
            due("power " + power, Check.inn("IGa9" + power).guest(0, 2), power);
        }
    }

    private void deeds() {
        check.says("DEEDS, none or more, of three letters: k (kills), w (weds), g (gives), t (takes), then two NAMES (a to d)");
        StringBuilder tale = new StringBuilder();
        String kinds = "kwgtkwgt";
        for (int deeds = 0; deeds < 8; deeds++) {
            slipIs(tale.toString(), NONE);
            tale.append(kinds.charAt(deeds)).append('d').append('a');
        }
        slipIs(tale.toString(), NONE);
        for (char kind : "jlvxfhsuKWGT".toCharArray()) {
            slipIs(kind + "ab", 0);
        }
    }

    /** Each letter at each place, with nothing, something sound and something unsound behind it. */
    private void faults() {
        check.says("the place of the first letter by which it can be none, whatever came behind it (its length set aside)");
        String sound = "Gb21";
        for (int place = 0; place <= 21; place++) {
            for (int letter = 0; letter <= 255; letter++) {
                String text = FIVE.substring(0, place) + (char) letter;
                boolean fits = fitsInn(place, letter);
                int alone = !fits ? place : text.length() % 4 == 1 ? NONE : text.length();
                due("letter " + letter + " at " + place, faultOf(text), alone);
                if (!fits) {
                    due("letter " + letter + " at " + place + " and more", faultOf(text + "X"), place);
                    due("letter " + letter + " at " + place + " and sound ones", faultOf(text + sound.substring(place % 4)), place);
                }
            }
        }
        for (int place = 0; place < 24; place++) {
            for (int letter = 0; letter <= 255; letter++) {
                String text = "wdcgbatadkacwbbgddtcakdb".substring(0, place) + (char) letter;
                boolean fits = place % 3 == 0 ? "kwgt".indexOf(letter) >= 0 : "abcd".indexOf(letter) >= 0;
                int alone = !fits ? place : text.length() % 3 == 0 ? NONE : text.length();
                due("letter " + letter + " at " + place + " of a tale", slipOf(text), alone);
                if (!fits) {
                    due("letter " + letter + " at " + place + " of a tale, and more", slipOf(text + "kab"), place);
                }
            }
        }
        check.says("its length, if it is only not at its end; NONE: none");
        for (int length = 0; length <= 21; length++) {
            faultIs(FIVE.substring(0, length), length % 4 == 1 ? NONE : length);
        }
        for (int length = 0; length <= 24; length++) {
            slipIs("kabkabkabkabkabkabkabkab".substring(0, length), length % 3 == 0 ? NONE : length);
        }
    }

    private static boolean fitsInn(int place, int letter) {
        if (place == 0) {
            return letter == 'I';
        }
        String allowed = new String[] {"0123", "G", "abcd", "0123456789"}[place % 4];
        return place < 21 && allowed.indexOf(letter) >= 0;
    }

    private void constants() {
        check.says("NONE is -9.");
        due("NONE", SupperTales.NONE, -9);
        due("UNKNOWN", SupperTales.UNKNOWN, -1);
        due("OUTSIDE", SupperTales.OUTSIDE, -2);
        due("STATE", SupperTales.STATE, -3);
        due("FULL", SupperTales.FULL, -4);
    }

    private void newObject() {
        check.says("No guests, no tales.");
        SupperTales x = new SupperTales();
        due("guests", x.count(1), 0);
        due("letters of all tales", x.count(9), 0);
        due("guest(0, 0)", x.guest(0, 0), UNKNOWN);
        check.says("At first THE INN is I.");
        due("THE TEXT is empty, though", x.count(0), 0);
        due("so it has a fault", x.fault(), 0);
        due("so there is no inn in it", x.inn(), STATE);
        due("nobody is alive", x.count(3), 0);
        due("nobody is wed", x.count(4), 0);
        due("no coins", x.count(5), 1000);
        due("no names", x.count(8), 0);
        due("told in it", x.tell(0), 0);
        due("is a night", x.count(2), 1);
    }

    private void newInn() {
        check.says("All GUESTS are alive and unwed, no NIGHT was, and when THE INN is made anew.");
        SupperTales x = Check.inn("IGa13Gb13Gc13", "wabkacgab");
        due("nights at first", x.count(2), 0);
        due("alive at first", x.count(3), 7);
        due("wed at first", x.count(4), 0);
        x.tell(0);
        check.due("behind a night", Check.guests(x), "0:a0 wed to 1; 1:b2 wed to 0; 2:c1 dead;");
        due("nights behind a night", x.count(2), 1);
        due("the same text again", x.inn(), 3);
        check.due("anew", Check.guests(x), "0:a1; 1:b1; 2:c1;");
        due("nights anew", x.count(2), 0);
        due("alive anew", x.count(3), 7);
        due("wed anew", x.count(4), 0);
    }

    private void write() {
        check.says("A letter (0 to 255) comes behind THE TEXT: how long it is. OUTSIDE; FULL: there are 24.");
        SupperTales x = new SupperTales();
        for (int letter : new int[] {-1, 256, LOWEST, HIGHEST}) {
            due("write(" + letter + ")", x.write(letter), OUTSIDE);
        }
        due("refused: letters", x.count(0), 0);
        due("write(0)", x.write(0), 1);
        due("write(255)", x.write(255), 2);
        for (int i = 3; i < 24; i++) {
            x.write('I');
        }
        due("letters", x.count(0), 23);
        due("write, the 24th", x.write('I'), 24);
        due("write, the 25th", x.write('I'), FULL);
        due("write(-1) when full: OUTSIDE is named first", x.write(-1), OUTSIDE);
        due("write(256) when full", x.write(256), OUTSIDE);
        due("refused: letters", x.count(0), 24);
        SupperTales y = new SupperTales();
        Check.text(y, "IGa1");
        y.write(256);
        y.write('2');
        due("refused: it did not come behind", y.inn(), 1);
        check.due("the letters behind it did", Check.guests(y), "0:a1;");
    }

    private void wipe() {
        check.says("THE TEXT is empty: how long it was.");
        SupperTales x = new SupperTales();
        due("wipe() of none", x.wipe(), 0);
        x.write('X');
        due("wipe() of 1", x.wipe(), 1);
        due("letters", x.count(0), 0);
        due("fault of an empty text", x.fault(), 0);
        for (int i = 0; i < 24; i++) {
            x.write('I');
        }
        due("wipe() of 24", x.wipe(), 24);
        due("wipe() again", x.wipe(), 0);
        due("there is room again", x.write('I'), 1);
        due("nothing of the former letters is left", x.fault(), NONE);
    }

    private void fault() {
        check.says("FAULT of THE TEXT; NONE.");
        SupperTales x = Check.inn("IGa11", "kxx");
        due("none", x.fault(), NONE);
        due("not of a tale", x.slip(0), 1);
        x.write('G');
        due("its length", x.fault(), 6);
        x.write('G');
        due("a place", x.fault(), 6);
        x.write('a');
        due("the first place", x.fault(), 6);
        due("asked again", x.fault(), 6);
        due("letters stay", x.count(0), 8);
    }

    private void inn() {
        check.says("THE TEXT is THE INN (THE ROW of ACTS is empty, what was kept is gone; "
                + "TALES, ODDS, what is SEEN, THE SEED stay): how many GUESTS.");
        SupperTales x = Check.inn("IGa31Gb01", "gab", "kab", "wab");
        x.odds(2, 3, 5);
        x.seed(-5);
        x.see(1, true);
        x.tell(0);
        x.keep(0);
        x.keep(1);
        due("acts before", x.count(6), 1);
        due("inn()", x.inn(), 2);
        due("acts", x.count(6), 0);
        due("undo()", x.undo(), STATE);
        due("what was kept in 0", x.again(0), STATE);
        due("what was kept in 1", x.again(1), STATE);
        due("tales", x.count(9), 9);
        due("seen", x.count(7), 1);
        due("by which tale", x.which(), 2);
        due("text", x.count(0), 9);
        due("inn() of it again", x.inn(), 2);
        due("odds of tale 1", x.mean(0, 0), 1000 + 2 * 22 + 3 * 23 + 5 * 23);
        due("odds of tale 0", x.odds(10, 0, 0), 2);
        due("seed", x.seed(0), -5);
        check.says("STATE: a FAULT.");
        x.tell(0);
        x.keep(0);
        x.write('G');
        due("a fault: its length", x.inn(), STATE);
        due("refused: acts", x.count(6), 1);
        check.due("refused: guests", Check.guests(x), "0:a2; 1:b1;");
        due("refused: nights", x.count(2), 1);
        due("refused: kept", x.again(0), 2);
        x.write('G');
        due("a fault: a place", x.inn(), STATE);
        x.wipe();
        due("an empty text", x.inn(), STATE);
        due("refused: guests", x.count(1), 2);
        x.write('I');
        due("no fault", x.inn(), 0);
        due("no guests any more", x.count(1), 0);
    }

    private void quill() {
        check.says("A letter (0 to 255) comes behind a TALE: how long it is. UNKNOWN; OUTSIDE: letter; FULL: there are 24.");
        SupperTales x = new SupperTales();
        for (int tale : new int[] {-1, 3, LOWEST, HIGHEST}) {
            due("quill(" + tale + ", k)", x.quill(tale, 'k'), UNKNOWN);
            due("quill(" + tale + ", 256): UNKNOWN is named first", x.quill(tale, 256), UNKNOWN);
        }
        for (int letter : new int[] {-1, 256, LOWEST, HIGHEST}) {
            due("quill(0, " + letter + ")", x.quill(0, letter), OUTSIDE);
            due("quill(2, " + letter + ")", x.quill(2, letter), OUTSIDE);
        }
        due("refused: letters of all tales", x.count(9), 0);
        due("quill(0, 0)", x.quill(0, 0), 1);
        due("quill(0, 255)", x.quill(0, 255), 2);
        due("each tale by itself", x.quill(2, 'k'), 1);
        for (int i = 2; i < 24; i++) {
            x.quill(2, 'k');
        }
        due("quill, the 24th", x.quill(2, 'k'), 24);
        due("quill, the 25th", x.quill(2, 'k'), FULL);
        due("quill(2, 256) when full: OUTSIDE is named first", x.quill(2, 256), OUTSIDE);
        due("quill(3, k) when one is full", x.quill(3, 'k'), UNKNOWN);
        due("another one is not full", x.quill(0, 'k'), 3);
        due("letters of all tales", x.count(9), 27);
        due("not in the text", x.count(0), 0);
    }

    private void blot() {
        check.says("A TALE is empty: how long it was. UNKNOWN.");
        SupperTales x = Check.inn("IGa31Gb01", "gab", "g", "kabkabkabkabkabkabkabkab");
        due("blot(-1)", x.blot(-1), UNKNOWN);
        due("blot(3)", x.blot(3), UNKNOWN);
        due("refused: letters of all tales", x.count(9), 28);
        due("blot(2), a full one", x.blot(2), 24);
        due("blot(2), an empty one", x.blot(2), 0);
        due("it tells of nothing", x.would(2, 2), 0);
        due("the others stay", x.count(9), 4);
        due("blot(0)", x.blot(0), 3);
        due("blot(1)", x.blot(1), 1);
        due("there is room again", x.quill(2, 'w'), 1);
        due("nothing of the former letters is left", x.slip(2), 1);
    }

    private void slip() {
        check.says("FAULT of a TALE; NONE. UNKNOWN.");
        SupperTales x = Check.inn("IGa31Gb01", "gab", "gabk", "gabkx");
        x.write('X');
        due("none", x.slip(0), NONE);
        due("its length", x.slip(1), 4);
        due("a place", x.slip(2), 4);
        for (int tale : new int[] {-1, 3, LOWEST, HIGHEST}) {
            due("slip(" + tale + ")", x.slip(tale), UNKNOWN);
        }
    }

    private void guest() {
        check.says("Of a GUEST its NAME (what = 0), COINS and 100 (1), POWER (2), 1 if it is alive, 0 (3), to whom it is wed (4; NONE).");
        SupperTales x = Check.inn("IGd03Ga90Gb11Gc22", "wdakdbgbagda");
        int[][] before = {{3, 100, 3, 1, NONE}, {0, 109, 0, 1, NONE}, {1, 101, 1, 1, NONE}, {2, 102, 2, 1, NONE}};
        int[][] behind = {{3, 99, 3, 1, 1}, {0, 109, 0, 1, 0}, {1, 101, 1, 0, NONE}, {2, 102, 2, 1, NONE}};
        guestsAre(x, before);
        x.tell(0);
        guestsAre(x, behind);
        check.says("UNKNOWN; OUTSIDE.");
        for (int guest : new int[] {-1, 4, 5, LOWEST, HIGHEST}) {
            due("guest(" + guest + ", 0)", x.guest(guest, 0), UNKNOWN);
            due("guest(" + guest + ", 5): UNKNOWN is named first", x.guest(guest, 5), UNKNOWN);
        }
        for (int what : new int[] {-1, 5, LOWEST, HIGHEST}) {
            due("guest(0, " + what + ")", x.guest(0, what), OUTSIDE);
            due("guest(3, " + what + ")", x.guest(3, what), OUTSIDE);
        }
    }

    private void guestsAre(SupperTales x, int[][] want) {
        for (int guest = 0; guest < want.length; guest++) {
            for (int what = 0; what < want[guest].length; what++) {
                due("guest(" + guest + ", " + what + ")", x.guest(guest, what), want[guest][what]);
            }
        }
    }

    private void bears() {
        check.says("Who is alive and bears a NAME, as bits. OUTSIDE.");
        SupperTales x = Check.inn("IGa03Ga03Gb03Ga03Gd03", "kba");
        due("bears(0)", x.bears(0), 1 + 2 + 8);
        due("bears(2): nobody", x.bears(2), 0);
        due("bears(3)", x.bears(3), 16);
        x.tell(0);
        due("bears(0), one is dead", x.bears(0), 2 + 8);
        x.tell(0);
        x.tell(0);
        due("bears(0), all are dead", x.bears(0), 0);
        for (int name : new int[] {-1, 4, LOWEST, HIGHEST}) {
            due("bears(" + name + ")", x.bears(name), OUTSIDE);
        }
    }
}
