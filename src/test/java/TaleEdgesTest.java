/** The edges of what is asked of tales: Terms 2, promises 14 to 21. */
public final class TaleEdgesTest {
    private static final int UNKNOWN = Check.UNKNOWN, OUTSIDE = Check.OUTSIDE, STATE = Check.STATE;
    private static final int NONE = Check.NONE, LOWEST = Check.LOWEST, HIGHEST = Check.HIGHEST;
    private static final int[] NO_TALES = {-1, 3, LOWEST, HIGHEST};

    private final Check check = new Check();

    public static void main(String[] args) {
        TaleEdgesTest test = new TaleEdgesTest();
        test.would();
        test.coins();
        test.ends();
        test.endOfCoins();
        test.fewestDeeds();
        test.firstByDeeds();
        test.shortest();
        test.shortestAt();
        test.cut();
        test.chosen();
        test.chosenDeeds();
        test.round();
        test.roundOfSixty();
        test.proverb();
        test.unfinished();
        test.harmless();
        test.deadly();
        test.dear();
        test.kinds();
        test.check.end("TaleEdgesTest");
    }

    private void due(String call, long got, long want) {
        check.due(call, got, want);
    }

    private void would() {
        check.says("which DEEDS are DONE (what = 0: bits), how many are FINED (1), who is dead then (2: bits), COINS of all together, and 1000 (3)");
        SupperTales x = Check.inn("IGa93Ga93Ga93Gb90Gb90", "gabgabgabgabgabgabgabgab", "kabkabkaakaakaa", "kba");
        wouldBe(x, 0, 255, 0, 0, 1045);
        wouldBe(x, 1, 15, 1, 8 + 16 + 2 + 1, 1044);
        wouldBe(x, 2, 0, 1, 0, 1044);
        Check.tale(x, 2, "");
        wouldBe(x, 2, 0, 0, 0, 1045);
        Check.tale(x, 2, "kba".repeat(8));
        wouldBe(x, 2, 0, 8, 0, 1037);
        SupperTales y = Check.inn("IGa00", "kaa".repeat(8));
        wouldBe(y, 0, 0, 8, 0, 992);
        SupperTales none = Check.inn("I", "kaa");
        wouldBe(none, 0, 0, 0, 0, 1000);
        x.tell(1);
        Check.tale(x, 1, "");
        due("who was dead is dead then", x.would(1, 2), 8 + 16 + 2 + 1);
        check.says("UNKNOWN; OUTSIDE.");
        for (int tale : NO_TALES) {
            due("would(" + tale + ", 0)", x.would(tale, 0), UNKNOWN);
            due("would(" + tale + ", 4): UNKNOWN is named first", x.would(tale, 4), UNKNOWN);
        }
        for (int what : new int[] {-1, 4, LOWEST, HIGHEST}) {
            due("would(0, " + what + ")", x.would(0, what), OUTSIDE);
            due("would(2, " + what + ")", x.would(2, what), OUTSIDE);
        }
    }

    private void wouldBe(SupperTales x, int tale, int... want) {
        for (int what = 0; what <= 3; what++) {
            due("would(" + tale + ", " + what + ")", x.would(tale, what), want[what]);
        }
    }

    private void coins() {
        check.says("COINS of a GUEST then, and 100. UNKNOWN: tale, guest.");
        SupperTales x = Check.inn("IGa13Gb90Ga00", "gabgabgab", "kbb".repeat(8), "kabgab");
        due("coins(0, 0)", x.coins(0, 0), 98);
        due("coins(0, 1)", x.coins(0, 1), 110);
        due("coins(0, 2)", x.coins(0, 2), 100);
        due("coins(1, 1)", x.coins(1, 1), 101);
        due("coins(2, 1), dead then", x.coins(2, 1), 109);
        due("coins(2, 0)", x.coins(2, 0), 100);
        for (int tale : NO_TALES) {
            due("coins(" + tale + ", 0)", x.coins(tale, 0), UNKNOWN);
            due("coins(" + tale + ", 3)", x.coins(tale, 3), UNKNOWN);
        }
        for (int guest : new int[] {-1, 3, 5, LOWEST, HIGHEST}) {
            due("coins(0, " + guest + ")", x.coins(0, guest), UNKNOWN);
        }
    }

    /** The first deed and the second one, as shortestAt tells them, NONE where there is none. */
    private void shortestIs(SupperTales x, int guest, int end, int v, int... deeds) {
        String of = "(" + guest + ", " + end + ", " + v + ")";
        due("shortest" + of, x.shortest(guest, end, v), deeds.length);
        for (int i = 0; i <= 2; i++) {
            due("shortestAt" + of + ", deed " + i, x.shortestAt(guest, end, v, i), i < deeds.length ? deeds[i] : NONE);
        }
    }

    private void noneBrings(SupperTales x, int guest, int end, int v) {
        String of = "(" + guest + ", " + end + ", " + v + ")";
        due("shortest" + of, x.shortest(guest, end, v), NONE);
        due("shortestAt" + of + ", deed 0", x.shortestAt(guest, end, v, 0), NONE);
    }

    private void ends() {
        check.says("0 a GUEST is dead");
        SupperTales x = Check.inn("IGa03Gb03Gc03", "kab", "wac");
        shortestIs(x, 1, 0, 0, 1);
        x.tell(0);
        shortestIs(x, 1, 0, 0);
        shortestIs(x, 0, 0, 0, 20);
        check.says("1 it is wed to GUEST v");
        noneBrings(x, 0, 1, 1);
        noneBrings(x, 1, 1, 0);
        noneBrings(x, 0, 1, 0);
        shortestIs(x, 0, 1, 2, 102);
        shortestIs(x, 2, 1, 0, 102);
        x.tell(1);
        shortestIs(x, 0, 1, 2);
        shortestIs(x, 2, 1, 0);
        noneBrings(x, 2, 1, 2);
        SupperTales y = Check.inn("IGa03Gb03Gc03", "wab");
        y.tell(0);
        shortestIs(y, 0, 1, 2, 1, 102);
        check.says("3 it bears NAME v");
        SupperTales z = Check.inn("IGa03Gb03Gd00", "kad");
        shortestIs(z, 0, 3, 0);
        shortestIs(z, 0, 3, 1, 301);
        noneBrings(z, 0, 3, 2);
        shortestIs(z, 0, 3, 3, 303);
        noneBrings(z, 2, 3, 0);
        z.tell(0);
        noneBrings(z, 0, 3, 3);
        shortestIs(z, 2, 3, 3);
    }

    private void endOfCoins() {
        check.says("2 it has v COINS or more");
        SupperTales x = Check.inn("IGa93Gb93Gb93", "gbagbagbagba", "gba");
        Check.tellOften(x, 0, 2);
        due("coins", x.guest(0, 1), 117);
        shortestIs(x, 0, 2, 0);
        shortestIs(x, 0, 2, 16);
        shortestIs(x, 0, 2, 17);
        shortestIs(x, 0, 2, 18, 210);
        shortestIs(x, 0, 2, 19, 210, 210);
        noneBrings(x, 0, 2, 20);
        x.tell(1);
        shortestIs(x, 0, 2, 20, 210, 210);
        x.tell(1);
        shortestIs(x, 0, 2, 20, 210);
        x.tell(1);
        shortestIs(x, 0, 2, 20);
        SupperTales y = Check.inn("IGa00Gb13", "kab");
        shortestIs(y, 0, 2, 0);
        y.tell(0);
        due("fined", y.guest(0, 1), 99);
        shortestIs(y, 0, 2, 0, 210);
        noneBrings(y, 0, 2, 1);
    }

    private void fewestDeeds() {
        check.says("SHORTEST: the fewest DEEDS (0 to 2) of a tale by which, TOLD now, an END is so");
        SupperTales x = Check.inn("IGa03Ga03Ga03Ga03", "kaa");
        shortestIs(x, 1, 0, 0, 0);
        shortestIs(x, 2, 0, 0, 0, 0);
        check.says("NONE: by none.");
        noneBrings(x, 3, 0, 0);
        noneBrings(x, 0, 0, 0);
        x.tell(0);
        shortestIs(x, 1, 0, 0);
        shortestIs(x, 2, 0, 0, 0);
        shortestIs(x, 3, 0, 0, 0, 0);
    }

    private void firstByDeeds() {
        check.says("of such tales the first by DEEDS (k, w, g, t; then NAMES)");
        shortestIs(Check.inn("IGa01Ga01Ga01"), 0, 0, 0, 0, 0);
        shortestIs(Check.inn("IGa01Ga01"), 0, 0, 0, 100, 0);
        SupperTales wedded = Check.inn("IGa11Ga01", "waa");
        wedded.tell(0);
        shortestIs(wedded, 0, 0, 0, 200, 0);
        SupperTales poor = Check.inn("IGa01Ga01", "waa");
        poor.tell(0);
        shortestIs(poor, 0, 0, 0, 300, 0);
        shortestIs(Check.inn("IGa03Gb03Gc03"), 2, 0, 0, 2);
        shortestIs(Check.inn("IGa00Gb03Gc03"), 2, 0, 0, 12);
        noneBrings(Check.inn("IGa00Gb00Gc03"), 2, 0, 0);
        shortestIs(Check.inn("IGd03Gb03Gc03"), 0, 0, 0, 13);
        shortestIs(Check.inn("IGa01Ga01Gb00"), 0, 0, 0, 1, 0);
        shortestIs(Check.inn("IGd03Gd03"), 1, 0, 0, 33);
        shortestIs(Check.inn("IGd03Gd03"), 0, 1, 1, 133);
        shortestIs(Check.inn("IGd13Gd03"), 1, 2, 1, 233);
        shortestIs(Check.inn("IGc03Gd03"), 0, 3, 3, 323);
    }

    private void shortest() {
        check.says("SHORTEST: how many DEEDS; NONE.");
        SupperTales alike = Check.inn("IGa03Ga03Ga03Ga03", "kaa");
        due("1 by one", alike.shortest(1, 0, 0), 1);
        due("2 by two", alike.shortest(2, 0, 0), 2);
        due("3 by none", alike.shortest(3, 0, 0), NONE);
        alike.tell(0);
        due("1 is dead already", alike.shortest(1, 0, 0), 0);
        check.says("OUTSIDE: end (0 to 3), v (1: a GUEST that there is; 2: 0 to 20; 3: a NAME); UNKNOWN: guest.");
        SupperTales x = Check.inn("IGa03Gb03Gc03");
        for (int end : new int[] {-1, 4, LOWEST, HIGHEST}) {
            endRefused(x, 0, end, 0, OUTSIDE);
            endRefused(x, 3, end, 0, OUTSIDE);
        }
        for (int v : new int[] {-1, 3, 5, LOWEST, HIGHEST}) {
            endRefused(x, 0, 1, v, OUTSIDE);
            endRefused(x, 3, 1, v, OUTSIDE);
        }
        due("v the last guest", x.shortest(0, 1, 2), 1);
        due("v the first guest", x.shortest(1, 1, 0), 1);
        for (int v : new int[] {-1, 21, LOWEST, HIGHEST}) {
            endRefused(x, 0, 2, v, OUTSIDE);
            endRefused(x, -1, 2, v, OUTSIDE);
        }
        due("v 0 coins", x.shortest(0, 2, 0), 0);
        due("v 20 coins", x.shortest(0, 2, 20), NONE);
        for (int v : new int[] {-1, 4, LOWEST, HIGHEST}) {
            endRefused(x, 0, 3, v, OUTSIDE);
            endRefused(x, 3, 3, v, OUTSIDE);
            due("v of end 0 is not looked at", x.shortest(1, 0, v), 1);
            due("v of end 0 is not looked at", x.shortestAt(1, 0, v, 0), 1);
        }
        for (int guest : new int[] {-1, 3, 5, LOWEST, HIGHEST}) {
            for (int end = 0; end <= 3; end++) {
                endRefused(x, guest, end, 0, UNKNOWN);
            }
        }
    }

    private void endRefused(SupperTales x, int guest, int end, int v, int want) {
        String of = "(" + guest + ", " + end + ", " + v;
        due("shortest" + of + ")", x.shortest(guest, end, v), want);
        due("shortestAt" + of + ", 0)", x.shortestAt(guest, end, v, 0), want);
        due("shortestAt" + of + ", 2)", x.shortestAt(guest, end, v, 2), want);
    }

    private void shortestAt() {
        check.says("Its i-th DEED (from 0): 100 times 0 k, 1 w, 2 g, 3 t, and 10 times the first NAME, and the second one");
        SupperTales x = Check.inn("IGa03Ga03Ga03Gd13Gc03");
        due("of two the first one", x.shortestAt(2, 0, 0, 0), 0);
        due("of two the second one", x.shortestAt(2, 0, 0, 1), 0);
        due("wda", x.shortestAt(3, 1, 0, 0), 103);
        due("gdc", x.shortestAt(4, 2, 1, 0), 232);
        due("tcd", x.shortestAt(4, 3, 3, 0), 323);
        check.says("NONE: there are not so many. OUTSIDE; UNKNOWN.");
        due("of two the third one", x.shortestAt(2, 0, 0, 2), NONE);
        due("of one the second one", x.shortestAt(1, 0, 0, 1), NONE);
        due("of none the first one", x.shortestAt(1, 3, 0, 0), NONE);
        due("where none brings it", x.shortestAt(0, 1, 0, 0), NONE);
        due("far too many", x.shortestAt(2, 0, 0, HIGHEST), NONE);
        due("i below 0", x.shortestAt(2, 0, 0, -1), OUTSIDE);
        due("i far below 0", x.shortestAt(2, 0, 0, LOWEST), OUTSIDE);
        due("i below 0, no such guest: OUTSIDE is named first", x.shortestAt(5, 0, 0, -1), OUTSIDE);
    }

    private void cutIs(String inn, String tale, int want) {
        due("cut of " + tale + " in " + inn, Check.inn(inn, tale).cut(0), want);
    }

    private void cut() {
        check.says("the set of its DEEDS (bits, by place) of the fewest without which all others would be DONE");
        cutIs("IGa93Gb00", "", 0);
        cutIs("IGa93Gb00", "gabgabgab", 0);
        cutIs("IGa93Ga93Ga93Gb00", "gab".repeat(8), 0);
        cutIs("IGa90Gb00", "gab", 1);
        cutIs("IGa90Gb00", "gab".repeat(8), 255);
        cutIs("I", "kab".repeat(8), 255);
        cutIs("IGa01Gb03", "tbawaakba", 4);
        cutIs("IGa93Gb00", "kabgabgab", 1);
        cutIs("IGa93Gb00", "gabgabkab", 0);
        check.says("of like ones the least.");
        cutIs("IGa92Gb00", "gabgabgab", 1);
        cutIs("IGa91Gb00", "gabgabgab", 3);
        cutIs("IGa93Gb00", "kabgab", 1);
        cutIs("IGa93Ga93Gb00", "gab".repeat(8), 3);
        check.says("TO CUT, as bits. UNKNOWN.");
        cutIs("IGa90Gb00", "gabgabga", 3);
        cutIs("IGa90Gb00", "gabXabgab", 1);
        cutIs("IGa90Gb00", "ga", 0);
        for (int tale : NO_TALES) {
            due("cut(" + tale + ")", new SupperTales().cut(tale), UNKNOWN);
        }
    }

    private void chosenIs(String inn, String tale, int some, int all) {
        SupperTales x = Check.inn(inn, tale);
        due("by some choice, of " + tale + " in " + inn, x.chosen(0, false), some);
        due("by all choices, of " + tale + " in " + inn, x.chosen(0, true), all);
    }

    private void chosen() {
        check.says("for each DEED any GUEST alive that bears the first NAME and has POWER left may be the DOER, "
                + "any other one alive that bears the second NAME the OTHER");
        chosenIs("IGa01Gb00", "kab", 2, 2);
        chosenIs("IGa01Gb00Gb00", "kab", 6, 0);
        chosenIs("IGa01Gb00Gb00", "kabkab", 6, 0);
        chosenIs("IGa02Gb00Gb00", "kabkab", 6, 6);
        chosenIs("IGa01Ga01", "kaa", 3, 0);
        chosenIs("IGa01Ga00", "kaa", 2, 2);
        chosenIs("IGa00Ga01", "kaa", 1, 1);
        chosenIs("IGa01Ga01Gb00", "tabkbb", 0, 0);
        chosenIs("IGa02Ga02Gb01", "tabkbb", 7, 0);
        chosenIs("IGa02Ga02Gb00", "tabkbb", 4, 4);
        check.says("(where there is none, as told above)");
        chosenIs("IGa00Gb00", "kab", 0, 0);
        chosenIs("IGa03Gb00", "kac", 0, 0);
        chosenIs("IGa03Gb00", "kca", 0, 0);
        chosenIs("IGa11Gb00", "kacgabkab", 2, 2);
        chosenIs("IGa21Gb00", "kacgabkab", 0, 0);
        chosenIs("I", "kab", 0, 0);
        chosenIs("IGa01", "", 0, 0);
        check.says("Who is dead by some choice (all = false), by all of them, as bits.");
        SupperTales x = Check.inn("IGa03Gb03Gb03Gc00", "kac", "kab", "");
        x.tell(0);
        due("one more by some", x.chosen(1, false), 2 + 4 + 8);
        due("who was dead, by all", x.chosen(1, true), 8);
        due("of no deeds", x.chosen(2, false), 8);
        due("of no deeds", x.chosen(2, true), 8);
    }

    private void chosenDeeds() {
        check.says("(asked of a TALE of 4 DEEDS at most)");
        chosenIs("IGa03Gb00Gb00Gb00", "kabkabkab", 14, 14);
        chosenIs("IGa03Ga01Gb00Gb00Gb00", "kabkabkabkaa", 31, 28);
        check.says("UNKNOWN; STATE: the TALE has more than 4 DEEDS.");
        chosenIs("IGa03Gb00", "kabkabkabkabk", 2, 2);
        chosenIs("IGa03Gb00", "kabkabkabkabka", 2, 2);
        chosenIs("IGa03Gb00", "kabkabkabkabXabkab", 2, 2);
        chosenIs("IGa03Gb00", "kabkabkabkabkab", STATE, STATE);
        chosenIs("IGa03Gb00", "kab".repeat(8), STATE, STATE);
        SupperTales x = Check.inn("IGa03Gb00", "kab", "kab", "kab");
        for (int tale : NO_TALES) {
            due("chosen(" + tale + ", false)", x.chosen(tale, false), UNKNOWN);
            due("chosen(" + tale + ", true)", x.chosen(tale, true), UNKNOWN);
        }
        due("chosen(2, true)", x.chosen(2, true), 2);
    }

    private void roundIs(String inn, String tale, int want) {
        due("round of " + tale + " in " + inn, Check.inn(inn, tale).round(0), want);
    }

    private void round() {
        check.says("behind how many NIGHTS (0 to 60) all is first as it was behind a lesser number of NIGHTS "
                + "(who is alive, wed, NAMES, COINS), and that lesser number: 100 times that and the first");
        roundIs("I", "", 1);
        roundIs("IGa93", "", 1);
        roundIs("IGa93Gb03", "kcdkdc", 1);
        roundIs("IGa11Gb01", "gabgba", 1);
        roundIs("IGa01Gb01Ga00Gb00", "tabtba", 2);
        roundIs("IGa01Gb01Ga00Gb00Gc01", "tcbtabtba", 103);
        roundIs("IGa03Gb00", "tab", 102);
        roundIs("IGa03Gb03Gc00", "kabtac", 102);
        roundIs("IGa81Gb00Gc00", "gabtac", 506);
        roundIs("IGa91Gb00Gc00", "gabtac", 607);
        roundIs("IGa02Gb00Gc00", "wabtac", 102);
        check.says("NONE: not so soon.");
        roundIs("IGa01", "kaa", NONE);
        roundIs("IGa01Gb00", "kab", NONE);
        roundIs("IGa01Gb00", "wab", NONE);
        check.says("ROUND; NONE. UNKNOWN.");
        SupperTales x = Check.inn("IGa91Gb00Gc00", "gabtac", "", "kaa");
        due("round(1)", x.round(1), 1);
        due("round(2)", x.round(2), NONE);
        for (int tale : NO_TALES) {
            due("round(" + tale + ")", x.round(tale), UNKNOWN);
        }
        Check.tellOften(x, 0, 5);
        due("from now on", x.round(0), 102);
        x.tell(0);
        due("from now on", x.round(0), 1);
    }

    /** A tale that comes round behind just 61 nights, and a night later behind just 60. */
    private void roundOfSixty() {
        check.says("behind how many NIGHTS (0 to 60)");
        SupperTales x = Check.inn("IGc91Gb92Gd91Gc92Gd91", "taagdbtdctcctcdtcb", "gddgbdgcb");
        Check.tellOften(x, 1, 60);
        due("61 nights are not looked at", x.round(0), NONE);
        x.tell(0);
        int sixty = x.round(0);
        due("60 nights are", sixty % 100, 60);
        x.tell(0);
        due("59 nights", x.round(0), sixty - 101);
        Check.tellOften(x, 0, sixty / 100 - 1);
        String then = Check.guests(x);
        Check.tellOften(x, 0, 60 - sixty / 100);
        check.due("guests behind 60 nights", Check.guests(x), then);
    }

    private void kindsAre(String inn, String tale, int want) {
        due("kinds of " + tale + " in " + inn, Check.inn(inn, tale).kinds(0), want);
    }

    private void proverb() {
        check.says("1 PROVERB (nobody alive bears a NAME in its whole DEEDS)");
        kindsAre("IGa03Gb03", "kcd", 1 + 4);
        kindsAre("IGa03Gb03", "kca", 4);
        kindsAre("IGa03Gb03", "kac", 16);
        kindsAre("IGa03Gb03", "kcdkcckdb", 4);
        kindsAre("IGa03Gb03", "", 1 + 4);
        kindsAre("IGa03Gb03", "kcdka", 1 + 2 + 4);
        kindsAre("IGa03Gb03", "kcdkaXkab", 1 + 4);
        kindsAre("I", "kabkab", 1 + 4);
        SupperTales x = Check.inn("IGa03Gb03", "kab", "kbb");
        due("kbb while b is alive", x.kinds(1), 16);
        x.tell(0);
        due("kbb when b is dead", x.kinds(1), 1 + 4);
    }

    private void unfinished() {
        check.says("2 UNFINISHED (its FAULT is its length)");
        kindsAre("I", "", 1 + 4);
        kindsAre("I", "k", 1 + 2 + 4);
        kindsAre("I", "ka", 1 + 2 + 4);
        kindsAre("I", "kab", 1 + 4);
        kindsAre("I", "kabg", 1 + 2 + 4);
        kindsAre("I", "kabX", 1 + 4);
        kindsAre("I", "kX", 1 + 4);
        kindsAre("I", "X", 1 + 4);
        kindsAre("I", "kabkabkabkabkabkabkabka", 1 + 2 + 4);
        kindsAre("I", "kab".repeat(8), 1 + 4);
    }

    private void harmless() {
        check.says("4 HARMLESS (TOLD now it changes nothing but the NIGHT)");
        kindsAre("IGa13Gb13", "gab", 0);
        kindsAre("IGa13Gb13", "gabgba", 4);
        kindsAre("IGa03Gb03", "wab", 0);
        kindsAre("IGa03Gb03", "tab", 0);
        kindsAre("IGa03Ga03", "taa", 4);
        kindsAre("IGa03Gb03Ga03", "tabtba", 4);
        kindsAre("IGa03Gb03", "tcb", 4);
    }

    private void deadly() {
        check.says("8 DEADLY (somebody dies by it)");
        kindsAre("IGa03Gb03", "kab", 8);
        kindsAre("IGa00Gb03", "kab", 16);
        SupperTales x = Check.inn("IGa03Gb03Gb03", "kab");
        x.tell(0);
        due("one more dies", x.kinds(0), 8);
        x.tell(0);
        due("who was dead does not die", x.kinds(0), 16);
    }

    private void dear() {
        check.says("16 DEAR (somebody is FINED)");
        kindsAre("IGa13Gb00", "gab", 0);
        kindsAre("IGa03Gb00", "gab", 16);
        kindsAre("IGa10Gb00", "gab", 16);
        kindsAre("IGa13Gb00", "gabgabkabka", 2 + 8 + 16);
    }

    private void kinds() {
        check.says("KINDS, as bits. UNKNOWN.");
        SupperTales x = Check.inn("IGa13Gb03", "kab", "gac", "gabk");
        due("kinds(0)", x.kinds(0), 8);
        due("kinds(1)", x.kinds(1), 16);
        due("kinds(2)", x.kinds(2), 2);
        for (int tale : NO_TALES) {
            due("kinds(" + tale + ")", x.kinds(tale), UNKNOWN);
        }
    }
}
