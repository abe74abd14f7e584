import java.math.BigInteger;
import java.util.Random;

/** The edges of what is seen at dawn and of nights by the seed: Terms 3 from SEEN on, promises 26 to 32. */
public final class DawnEdgesTest {
    private static final int UNKNOWN = Check.UNKNOWN, OUTSIDE = Check.OUTSIDE, STATE = Check.STATE, FULL = Check.FULL;
    private static final int LOWEST = Check.LOWEST, HIGHEST = Check.HIGHEST;
    private static final int[] NO_TALES = {-1, 3, LOWEST, HIGHEST};

    private final Check check = new Check();

    public static void main(String[] args) {
        DawnEdgesTest test = new DawnEdgesTest();
        test.six();
        test.deadOrAlive();
        test.justSoManyCoins();
        test.guestsThatAreNot();
        test.see();
        test.seeCoins();
        test.unsee();
        test.which();
        test.fractions();
        test.likely();
        test.seed();
        test.wrapping();
        test.thresholds();
        test.fortyNights();
        test.nights();
        test.check.end("DawnEdgesTest");
    }

    private void due(String call, long got, long want) {
        check.due(call, got, want);
    }

    private void six() {
        check.says("6 such at most, none at first");
        for (int coins = 0; coins <= 6; coins++) {
            SupperTales x = Check.inn("IGa03Gb03");
            due("none at first", x.count(7), 0);
            for (int i = 1; i <= 6; i++) {
                due("the " + i + "th, " + coins + " of coins", i <= coins ? x.seeCoins(0, 0) : x.see(1, false), i);
            }
            due("see, the 7th", x.see(0, false), FULL);
            due("seeCoins, the 7th", x.seeCoins(0, 7), FULL);
            due("refused: how many", x.count(7), 6);
            due("refused: all is so", x.which(), 7);
        }
    }

    private void deadOrAlive() {
        check.says("SEEN at dawn: that a GUEST is dead, or alive");
        SupperTales x = Check.inn("IGa03Gb03Gc03", "kab", "", "kac");
        x.see(1, true);
        due("1 is dead", x.which(), 1);
        x.unsee();
        x.see(1, false);
        due("1 is alive", x.which(), 2 + 4);
        x.see(2, false);
        due("2 as well", x.which(), 2);
        x.see(1, true);
        due("1 is alive and dead", x.which(), 0);
        x.unsee();
        x.tell(0);
        x.see(1, false);
        due("who was dead is not alive at dawn", x.which(), 0);
        x.unsee();
        x.see(1, true);
        due("who was dead is dead at dawn", x.which(), 7);
    }

    private void justSoManyCoins() {
        check.says("or has just n COINS");
        SupperTales x = Check.inn("IGa23Gb03", "gab", "gabgab", "gabgabgab");
        int[] byCoins = {4, 2, 1, 0};
        for (int n = -1; n <= 2; n++) {
            x.seeCoins(0, n);
            due("0 has " + n, x.which(), byCoins[n + 1]);
            x.unsee();
        }
        SupperTales poor = Check.inn("IGa00", "kaa".repeat(8), "kaakaa", "kaa");
        Check.tellOften(poor, 0, 6);
        poor.seeCoins(0, -50);
        due("0 has -50", poor.which(), 2);
        poor.unsee();
        poor.seeCoins(0, -49);
        due("0 has -49", poor.which(), 4);
    }

    private void guestsThatAreNot() {
        check.says("(of GUESTS that there are not any more nothing is looked at)");
        SupperTales x = Check.inn("IGa03Gb03Gc03", "kab", "", "kac");
        x.see(2, true);
        due("three guests: 2 is dead", x.which(), 4);
        Check.text(x, "IGa03Gb03");
        x.inn();
        due("two guests: nothing is looked at", x.which(), 7);
        due("it is SEEN still", x.count(7), 1);
        x.see(1, true);
        due("of the others it is", x.which(), 1);
        Check.text(x, "I");
        x.inn();
        due("no guests", x.which(), 7);
        Check.text(x, "IGa03Gb03Gc03");
        x.inn();
        due("three guests again: 1 and 2 are dead", x.which(), 0);
    }

    private void see() {
        check.says("SEEN that a GUEST is dead, or alive: how many there are. UNKNOWN; FULL: 6.");
        SupperTales x = Check.inn("IGa03Gb03");
        for (int guest : new int[] {-1, 2, 5, LOWEST, HIGHEST}) {
            due("see(" + guest + ", true)", x.see(guest, true), UNKNOWN);
            due("see(" + guest + ", false)", x.see(guest, false), UNKNOWN);
        }
        due("refused: how many", x.count(7), 0);
        due("see(0, false)", x.see(0, false), 1);
        due("see(1, false)", x.see(1, false), 2);
        due("the same again is one more", x.see(1, false), 3);
        x.see(1, false);
        due("the 5th", x.see(1, false), 5);
        due("the 6th", x.see(1, false), 6);
        due("the 7th", x.see(1, true), FULL);
        due("see(2, true) when full: UNKNOWN is named first", x.see(2, true), UNKNOWN);
        due("refused: all is so", x.which(), 7);
    }

    private void seeCoins() {
        check.says("SEEN that it has just n COINS: how many there are. UNKNOWN; OUTSIDE: n (-50 to 50); FULL: 6.");
        SupperTales x = Check.inn("IGa03Gb03");
        for (int guest : new int[] {-1, 2, 5, LOWEST, HIGHEST}) {
            due("seeCoins(" + guest + ", 0)", x.seeCoins(guest, 0), UNKNOWN);
            due("seeCoins(" + guest + ", 51): UNKNOWN is named first", x.seeCoins(guest, 51), UNKNOWN);
        }
        for (int n : new int[] {-51, 51, LOWEST, HIGHEST, 1000, 1001}) {
            due("seeCoins(0, " + n + ")", x.seeCoins(0, n), OUTSIDE);
        }
        due("refused: how many", x.count(7), 0);
        due("seeCoins(0, -50)", x.seeCoins(0, -50), 1);
        due("seeCoins(1, 50)", x.seeCoins(1, 50), 2);
        for (int i = 3; i <= 6; i++) {
            due("the " + i + "th", x.seeCoins(1, 0), i);
        }
        due("the 7th", x.seeCoins(1, 0), FULL);
        due("seeCoins(2, 0) when full: UNKNOWN is named first", x.seeCoins(2, 0), UNKNOWN);
        due("seeCoins(1, 51) when full: OUTSIDE is named first", x.seeCoins(1, 51), OUTSIDE);
        due("seeCoins(1, -51) when full: OUTSIDE is named first", x.seeCoins(1, -51), OUTSIDE);
        due("refused: how many", x.count(7), 6);
    }

    private void unsee() {
        check.says("Nothing is SEEN: how many there were.");
        SupperTales x = Check.inn("IGa03Gb03");
        due("unsee() of none", x.unsee(), 0);
        for (int i = 0; i < 6; i++) {
            x.see(0, true);
        }
        due("which() by what is not so", x.which(), 0);
        due("unsee() of 6", x.unsee(), 6);
        due("which()", x.which(), 7);
        due("unsee() again", x.unsee(), 0);
        due("there is room again", x.seeCoins(0, 0), 1);
        due("nothing of the former is left", x.which(), 7);
    }

    private void which() {
        check.says("WHICH: TALES by which, TOLD now, all that is SEEN is so, as bits.");
        SupperTales x = Check.inn("IGa23Gb03", "gab", "kab", "gabkab");
        due("nothing is seen", x.which(), 7);
        x.seeCoins(1, 1);
        due("1 has a coin", x.which(), 1 + 4);
        x.see(1, true);
        due("and is dead", x.which(), 4);
        x.seeCoins(0, 2);
        due("and 0 has both still", x.which(), 0);
        x.unsee();
        x.seeCoins(1, 1);
        x.tell(0);
        due("told now: tale 1 leaves it what it has", x.which(), 2);
        x.odds(10, 0, 0);
        due("by no odds too", x.which(), 2);
        check.says("WHICH, as bits.");
        SupperTales y = Check.inn("IGa03Gb03Gc03", "kab", "kac", "");
        for (int fitting = 0; fitting < 8; fitting++) {
            for (int tale = 0; tale <= 2; tale++) {
                Check.tale(y, tale, (fitting >> tale & 1) == 1 ? "kab" : "kac");
            }
            y.unsee();
            y.see(1, true);
            due("1 is dead by " + fitting, y.which(), fitting);
        }
    }

    private void fractionIs(SupperTales x, int tale, int above, int below) {
        due("likely(" + tale + ", true)", x.likely(tale, true), above);
        due("likely(" + tale + ", false)", x.likely(tale, false), below);
    }

    private void fractions() {
        check.says("FRACTIONS are told above (upper = true), below (1 and more), in least terms; refusals of them are told likewise.");
        for (int a = 0; a <= 10; a++) {
            SupperTales x = Check.inn("IGa03Gb03Gc03", "kab", "", "kac");
            x.odds(a, 10 - a, 0);
            int divisor = BigInteger.valueOf(a).gcd(BigInteger.TEN).intValue();
            fractionIs(x, 0, a / divisor, 10 / divisor);
        }
        SupperTales x = Check.inn("IGa03Gb03Gc03", "kab", "", "kac");
        x.see(2, false);
        int[][] odds = {{4, 2, 4, 2, 3}, {3, 6, 1, 1, 3}, {3, 3, 4, 1, 2}, {2, 6, 2, 1, 4}, {0, 1, 9, 0, 1}, {1, 0, 9, 1, 1}, {5, 3, 2, 5, 8}};
        for (int[] o : odds) {
            x.odds(o[0], o[1], o[2]);
            fractionIs(x, 0, o[3], o[4]);
            fractionIs(x, 2, 0, 1);
        }
        x.odds(0, 0, 10);
        fractionIs(x, 0, STATE, STATE);
        fractionIs(x, 3, UNKNOWN, UNKNOWN);
    }

    private void likely() {
        check.says("How likely it was a TALE, if one was TOLD by ODDS and all that is SEEN is so: a FRACTION. "
                + "UNKNOWN; STATE: it can have been none.");
        SupperTales x = Check.inn("IGa03Gb03Gc03", "kab", "", "kac");
        for (int tale : NO_TALES) {
            fractionIs(x, tale, UNKNOWN, UNKNOWN);
        }
        x.see(1, true);
        fractionIs(x, 0, 1, 1);
        fractionIs(x, 1, 0, 1);
        x.odds(1, 4, 5);
        fractionIs(x, 0, 1, 1);
        x.odds(0, 5, 5);
        due("it is so by tale 0", x.which(), 1);
        for (int tale = 0; tale <= 2; tale++) {
            fractionIs(x, tale, STATE, STATE);
        }
        x.odds(10, 0, 0);
        fractionIs(x, 0, 1, 1);
        x.see(2, true);
        due("it is so by none", x.which(), 0);
        for (int tale = 0; tale <= 2; tale++) {
            fractionIs(x, tale, STATE, STATE);
        }
        for (int tale : NO_TALES) {
            fractionIs(x, tale, UNKNOWN, UNKNOWN);
        }
    }

    private void seed() {
        check.says("THE SEED is v: what it was.");
        SupperTales x = new SupperTales();
        long[] values = {0, Long.MIN_VALUE, Long.MAX_VALUE, -1, 1, 0};
        long was = 0;
        for (long v : values) {
            due("seed(" + v + ")", x.seed(v), was);
            was = v;
        }
        check.says("by x (THE SEED, a long; 0 at first)");
        SupperTales y = new SupperTales();
        y.nights(1);
        due("0 at first", y.seed(0), 1442695040888963407L);
    }

    private static BigInteger next(BigInteger x) {
        return x.multiply(new BigInteger("6364136223846793005")).add(new BigInteger("1442695040888963407"))
                .mod(BigInteger.ONE.shiftLeft(64));
    }

    private static BigInteger unsigned(long x) {
        return BigInteger.valueOf(x).mod(BigInteger.ONE.shiftLeft(64));
    }

    private static int left(BigInteger x) {
        return x.shiftRight(33).mod(BigInteger.TEN).intValue();
    }

    private void wrapping() {
        check.says("that becomes x times 6364136223846793005 and 1442695040888963407 (64 bits, wrapping)");
        for (long v : new long[] {0, 1, -1, 2, Long.MIN_VALUE, Long.MAX_VALUE, 1L << 32, -6364136223846793005L}) {
            for (int m : new int[] {1, 2, 39, 40}) {
                SupperTales x = new SupperTales();
                x.seed(v);
                x.nights(m);
                BigInteger want = unsigned(v);
                for (int i = 0; i < m; i++) {
                    want = next(want);
                }
                due("the seed " + v + " behind " + m + " nights", x.seed(0), want.longValue());
            }
        }
    }

    /** Each tale kills another guest, so one night shows which one was told; what is left by 10 is on either side of the odds. */
    private void thresholds() {
        check.says("its upper 31 bits by 10, what is left: less than ODDS of TALE 0 the first one, "
                + "less than those and of TALE 1 the second one, else the third one: who is alive then (bits)");
        Random random = new Random(7);
        int leftSeen = 0;
        int signsSeen = 0;
        for (int i = 0; i < 200; i++) {
            long v = random.nextLong();
            BigInteger drawn = next(unsigned(v));
            int left = left(drawn);
            leftSeen |= 1 << left;
            signsSeen |= drawn.testBit(63) ? 1 : 2;
            SupperTales x = Check.inn("IGa03Gb03Gc03Gd01", "kda", "kdb", "kdc");
            nightIs(x, v, left + 1, 9 - left, 0, 0);
            nightIs(x, v, left + 1, 0, 9 - left, 0);
            nightIs(x, v, left, 10 - left, 0, 1);
            nightIs(x, v, left, 0, 10 - left, 2);
            nightIs(x, v, 0, left + 1, 9 - left, 1);
            nightIs(x, v, 0, left, 10 - left, 2);
            if (left > 0) {
                nightIs(x, v, 1, left, 9 - left, 1);
                nightIs(x, v, 1, left - 1, 10 - left, 2);
            }
        }
        due("all that can be left was drawn", leftSeen, 1023);
        due("with and without the uppermost bit", signsSeen, 3);
    }

    private void nightIs(SupperTales x, long v, int a, int b, int c, int tale) {
        x.seed(v);
        x.odds(a, b, c);
        due("nights(1) by " + a + ", " + b + ", " + c + " and the seed " + v, x.nights(1), 15 - (1 << tale));
    }

    private void fortyNights() {
        check.says("NIGHTS by THE SEED: m of them (1 to 40), in each a TALE is TOLD");
        for (int m : new int[] {1, 2, 39, 40}) {
            long v = seedWithLastTaleFirstAt(m);
            SupperTales x = Check.inn("IGa03Gb03", "", "kab");
            x.odds(9, 1, 0);
            x.seed(v);
            due("tale 1 is told in night " + m, x.nights(m), 1);
            if (m > 1) {
                x.seed(v);
                due("and not before", x.nights(m - 1), 3);
            }
        }
        SupperTales poor = Check.inn("IGa91Gb00", "gabkab");
        due("coins go from night to night: 5 nights", poor.nights(5), 3);
        due("without a coin left a kills b: 6 nights", poor.nights(6), 1);
    }

    /** A seed by which 9 is left in the m-th night and in none before. */
    private static long seedWithLastTaleFirstAt(int m) {
        for (long v = 0; v < 100_000; v++) {
            BigInteger x = unsigned(v);
            int night = 0;
            do {
                x = next(x);
                night++;
            } while (left(x) != 9 && night < m);
            if (left(x) == 9 && night == m) {
                return v;
            }
        }
        throw new IllegalStateException("no such seed");
    }

    private void nights() {
        check.says("NIGHTS, as bits. OUTSIDE: m.");
        SupperTales x = Check.inn("IGa03Gb03Gc03", "kabkac");
        x.seed(5);
        for (int m : new int[] {0, 41, -1, -40, LOWEST, HIGHEST}) {
            due("nights(" + m + ")", x.nights(m), OUTSIDE);
        }
        due("refused: the seed", x.seed(5), 5);
        due("nights(1)", x.nights(1), 1);
        due("nights(40)", x.nights(40), 1);
        due("of no guests", new SupperTales().nights(40), 0);
        check.says("(Nothing changes but THE SEED.)");
        check.due("guests", Check.guests(x), "0:a0; 1:b0; 2:c0;");
        due("nights", x.count(2), 0);
        due("acts", x.count(6), 0);
        due("the seed", x.seed(0) == 5 ? 1 : 0, 0);
    }
}
