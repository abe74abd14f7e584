/** The edges of odds and of names to give: Terms 3 up to what is seen, promises 22 to 25. */
public final class NameEdgesTest {
    private static final int UNKNOWN = Check.UNKNOWN, OUTSIDE = Check.OUTSIDE, STATE = Check.STATE;
    private static final int NONE = Check.NONE, LOWEST = Check.LOWEST, HIGHEST = Check.HIGHEST;

    private final Check check = new Check();

    public static void main(String[] args) {
        NameEdgesTest test = new NameEdgesTest();
        test.firstOdds();
        test.odds();
        test.meanOfLife();
        test.meanByOdds();
        test.mean();
        test.toGive();
        test.rests();
        test.restsOfNone();
        test.restsRefused();
        test.check.end("NameEdgesTest");
    }

    private void due(String call, long got, long want) {
        check.due(call, got, want);
    }

    private void firstOdds() {
        check.says("ODDS of TALES 0 to 2 are tenths (10 together; 10, 0, 0 at first).");
        SupperTales x = Check.inn("IGa13Gb03", "gab", "kba", "kba");
        due("tale 0 alone", x.mean(0, 0), 1200);
        due("tale 0 for sure", x.likely(0, true), 1);
        due("tale 1 by no odds", x.likely(1, true), 0);
        due("tale 2 by no odds", x.likely(2, true), 0);
        due("odds of tale 0", x.odds(1, 2, 7), 10);
        due("1, 2, 7", x.mean(0, 0), 1020);
        due("2 of 10 in least terms, above", x.likely(1, true), 1);
        due("2 of 10 in least terms, below", x.likely(1, false), 5);
    }

    private void odds() {
        check.says("ODDS: what those of TALE 0 were.");
        SupperTales x = Check.inn("IGa13Gb03", "gab", "kba", "kab");
        due("odds(0, 0, 10)", x.odds(0, 0, 10), 10);
        due("odds(0, 10, 0)", x.odds(0, 10, 0), 0);
        due("odds(10, 0, 0)", x.odds(10, 0, 0), 0);
        due("odds(2, 3, 5)", x.odds(2, 3, 5), 10);
        check.says("OUTSIDE: they are not 0 to 10 each, 10 together.");
        int[][] wrong = {{2, 3, 4}, {2, 3, 6}, {0, 0, 0}, {0, 0, 9}, {10, 0, 1}, {10, 10, 10}, {5, 5, 5},
            {-1, 1, 10}, {-1, 11, 0}, {1, -1, 10}, {10, -1, 1}, {1, 10, -1}, {10, 1, -1}, {11, 0, -1}, {11, -1, 0}, {0, 11, -1},
            {-1, 0, 11}, {0, -1, 11}, {11, 0, 0}, {0, 11, 0}, {0, 0, 11},
            {LOWEST, LOWEST, 10}, {10, LOWEST, LOWEST}, {HIGHEST, HIGHEST, 12}, {LOWEST, HIGHEST, 11}, {HIGHEST, 11, LOWEST}};
        for (int[] o : wrong) {
            due("odds(" + o[0] + ", " + o[1] + ", " + o[2] + ")", x.odds(o[0], o[1], o[2]), OUTSIDE);
        }
        due("refused: 2 times 20, 3 times 0, 5 times 21", x.mean(0, 0), 1000 + 40 + 105);
        due("refused: of tale 0", x.odds(10, 0, 0), 2);
    }

    private void meanOfLife() {
        check.says("what it has at dawn: COINS and 20, if it is alive, else 0");
        SupperTales x = Check.inn("IGa93Ga00Gb13", "", "", "kbakba");
        due("9 coins", x.mean(0, 0), 1290);
        due("no coins", x.mean(1, 0), 1200);
        x.odds(0, 0, 10);
        due("dead with 9 coins", x.mean(0, 0), 1000);
        due("dead with no coins", x.mean(1, 0), 1000);
        due("alive by another name", x.mean(0, 3), 1290);
        SupperTales poor = Check.inn("IGa00", "kaa".repeat(8));
        due("8 fined", poor.mean(0, 0), 1120);
        Check.tellOften(poor, 0, 1);
        due("16 fined", poor.mean(0, 0), 1040);
        Check.tellOften(poor, 0, 1);
        due("24 fined: less than none", poor.mean(0, 0), 960);
        due("by another name 16", poor.mean(0, 1), 1040);
    }

    private void meanByOdds() {
        check.says("of each TALE as often as its ODDS, together.");
        SupperTales x = Check.inn("IGa53Gb93", "gab", "gba", "kba");
        int[][] odds = {{10, 0, 0, 240}, {0, 10, 0, 260}, {0, 0, 10, 0}, {1, 0, 9, 24}, {0, 1, 9, 26}, {9, 1, 0, 242}, {5, 3, 2, 198}};
        for (int[] o : odds) {
            x.odds(o[0], o[1], o[2]);
            due("mean by " + o[0] + ", " + o[1] + ", " + o[2], x.mean(0, 0), 1000 + o[3]);
        }
    }

    private void mean() {
        check.says("if it gives that NAME now");
        SupperTales x = Check.inn("IGa53Gb93Gc03", "gba", "kba");
        due("its own name", x.mean(0, 0), 1260);
        due("another one", x.mean(0, 2), 1250);
        due("b's name: it gives, nobody bears a", x.mean(0, 1), 1240);
        due("the name is not given", x.guest(0, 0), 0);
        check.says("MEAN, and 1000. UNKNOWN; OUTSIDE: name; STATE: the GUEST is dead.");
        x.tell(1);
        for (int guest : new int[] {-1, 3, 5, LOWEST, HIGHEST}) {
            due("mean(" + guest + ", 0)", x.mean(guest, 0), UNKNOWN);
            due("mean(" + guest + ", 4): UNKNOWN is named first", x.mean(guest, 4), UNKNOWN);
        }
        for (int name : new int[] {-1, 4, LOWEST, HIGHEST}) {
            due("mean(2, " + name + ")", x.mean(2, name), OUTSIDE);
            due("mean(0, " + name + "), dead: OUTSIDE is named first", x.mean(0, name), OUTSIDE);
        }
        for (int name = 0; name <= 3; name++) {
            due("mean(0, " + name + "), dead", x.mean(0, name), STATE);
        }
        due("mean(2, 0), alive", x.mean(2, 0), 1210);
        due("mean(2, 3), alive", x.mean(2, 3), 1200);
    }

    private void toGive() {
        check.says("TO GIVE: the NAME of the greatest MEAN; of like ones the least.");
        due("all alike", Check.inn("IGd03").toGive(0), 0);
        due("a dies", Check.inn("IGa03Gd01", "kda").toGive(0), 1);
        due("a and b die", Check.inn("IGa03Gd02", "kdakdb").toGive(0), 2);
        due("a, b and c would die", Check.inn("IGa03Gd03", "kda", "kdb", "kdc").toGive(0), 1);
        SupperTales x = Check.inn("IGa03Gd93", "kda", "kdb", "kdc");
        x.odds(4, 3, 3);
        due("d alone lives by all of them, though it kills nobody and is fined", x.toGive(0), 3);
        due("the last one gets a coin", Check.inn("IGa03Gc93Gd00", "gcd").toGive(0), 3);
        due("the first one gets a coin", Check.inn("IGd03Gc93", "gca").toGive(0), 0);
        SupperTales poor = Check.inn("IGa00Gb00", "kaakaakaakaakaakaakaakaa");
        Check.tellOften(poor, 0, 4);
        due("all means are less than none", poor.mean(0, 1), 1000 - 120);
        due("the greatest of such", poor.toGive(0), 1);
        check.says("TO GIVE. UNKNOWN; STATE: it is dead.");
        SupperTales y = Check.inn("IGa03Gd01", "kda");
        for (int guest : new int[] {-1, 2, 5, LOWEST, HIGHEST}) {
            due("toGive(" + guest + ")", y.toGive(guest), UNKNOWN);
        }
        due("toGive(0), alive", y.toGive(0), 1);
        y.tell(0);
        due("toGive(0), dead", y.toGive(0), STATE);
        due("toGive(1), alive", y.toGive(1), 0);
    }

    private void rests() {
        check.says("pairs of NAMES that they give, so that none has a greater MEAN by another NAME alone");
        restsAre("IGa03Gb03Gc03Gd03", "", 0, 1, 16, 0);
        restsAre("IGa03Gb03Gc03Gd03", "kca", 0, 1, 4, 11);
        restsAre("IGa03Gb03Gc03Gd03", "kca", 1, 0, 4, 11);
        restsAre("IGa03Gb03Gc03Gd03", "kca", 0, 3, 6, 11);
        restsAre("IGd03Gd03Gc93", "gca", 0, 1, 3, 0);
        check.says("the first one (by the NAME of the first one): 10 times the one and the other");
        restsAre("IGd03Gd03Gc93", "kcagcb", 0, 1, 2, 11);
        restsAre("IGb03Gb03Gc93", "gcagcagcd", 0, 1, 1, 3);
        restsAre("IGb03Gb03Gc93", "gcagcagcd", 1, 0, 1, 30);
    }

    private void restsAre(String inn, String tale, int guest, int other, int howMany, int first) {
        SupperTales x = Check.inn(inn, tale);
        String of = "rests of " + guest + " and " + other + " by " + tale + " in " + inn;
        due(of + ": how many", x.rests(guest, other, 0), howMany);
        due(of + ": the first one", x.rests(guest, other, 1), first);
        due(of + " by giving the names", byDefinition(x, guest, other), 100 * howMany + first);
    }

    /** By the words of the document, through other calls: the names are given and the means looked at. */
    private static int byDefinition(SupperTales x, int guest, int other) {
        int howMany = 0;
        int first = NONE;
        for (int pair = 0; pair < 16; pair++) {
            x.give(guest, pair / 4);
            x.give(other, pair % 4);
            boolean stays = x.mean(guest, pair / 4) == greatestMean(x, guest) && x.mean(other, pair % 4) == greatestMean(x, other);
            howMany += stays ? 1 : 0;
            first = stays && first == NONE ? 10 * (pair / 4) + pair % 4 : first;
        }
        return 100 * howMany + first;
    }

    private static int greatestMean(SupperTales x, int guest) {
        return x.mean(guest, x.toGive(guest));
    }

    /**
     * Guest 0 is best off as d unless guest 1 is c, then as c; guest 1 is best off as d unless guest 0 is d, then as c:
     * they never rest.
     */
    private void restsOfNone() {
        check.says("RESTS: how many (what = 0), the first one (1); NONE (of 1): there is none.");
        SupperTales x = Check.inn("IGa13Gd01Gb11Gc12", "gcd", "gbc");
        x.odds(4, 6, 0);
        due("none: how many", x.rests(0, 1, 0), 0);
        due("none: the first one", x.rests(0, 1, 1), NONE);
        due("the other way about", x.rests(1, 0, 0), 0);
        due("the other way about", x.rests(1, 0, 1), NONE);
        int[][] meansOf0 = {{210, 210, 210, 210}, {204, 204, 204, 204}, {212, 206, 212, 212}, {214, 214, 210, 214}};
        for (int q = 0; q <= 3; q++) {
            x.give(1, q);
            for (int p = 0; p <= 3; p++) {
                due("mean of " + p + " against " + q, x.mean(0, p), 1000 + meansOf0[p][q]);
            }
        }
    }

    private void restsRefused() {
        check.says("UNKNOWN: both; OUTSIDE: both are one, what; STATE: one is dead.");
        SupperTales x = Check.inn("IGa03Gb03Gc03", "kab");
        due("all are alive", x.rests(0, 1, 0) > 0 ? 1 : 0, 1);
        x.tell(0);
        for (int guest : new int[] {-1, 3, 5, LOWEST, HIGHEST}) {
            due("rests(" + guest + ", 0, 0)", x.rests(guest, 0, 0), UNKNOWN);
            due("rests(0, " + guest + ", 0)", x.rests(0, guest, 0), UNKNOWN);
            due("both are one: UNKNOWN is named first", x.rests(guest, guest, 0), UNKNOWN);
            due("what: UNKNOWN is named first", x.rests(0, guest, 2), UNKNOWN);
            due("dead: UNKNOWN is named first", x.rests(1, guest, 0), UNKNOWN);
        }
        for (int what : new int[] {-1, 2, LOWEST, HIGHEST}) {
            due("rests(0, 2, " + what + ")", x.rests(0, 2, what), OUTSIDE);
            due("dead: OUTSIDE is named first", x.rests(0, 1, what), OUTSIDE);
        }
        for (int what = 0; what <= 1; what++) {
            due("both are one", x.rests(0, 0, what), OUTSIDE);
            due("both are one that is dead: OUTSIDE is named first", x.rests(1, 1, what), OUTSIDE);
            due("the other one is dead", x.rests(0, 1, what), STATE);
            due("the first one is dead", x.rests(1, 0, what), STATE);
        }
        due("who is alive", x.rests(0, 2, 0) >= 0 ? 1 : 0, 1);
    }
}
