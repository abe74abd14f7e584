/** The edges of what is kept and counted: the end of Terms 3, promises 33 to 35. */
public final class SlotEdgesTest {
    private static final int UNKNOWN = Check.UNKNOWN, OUTSIDE = Check.OUTSIDE, STATE = Check.STATE;
    private static final int LOWEST = Check.LOWEST, HIGHEST = Check.HIGHEST;
    private static final int[] NO_SLOTS = {-1, 2, LOWEST, HIGHEST};

    private final Check check = new Check();

    public static void main(String[] args) {
        SlotEdgesTest test = new SlotEdgesTest();
        test.slots();
        test.keep();
        test.again();
        test.countAtFirst();
        test.countOfMuch();
        test.count();
        test.check.end("SlotEdgesTest");
    }

    private void due(String call, long got, long want) {
        check.due(call, got, want);
    }

    private void slots() {
        check.says("SLOTS 0 to 1 keep GUESTS and NIGHTS (THE ROW of ACTS is empty when one goes on).");
        SupperTales x = Check.inn("IGa53Gb03Gc03", "wabgac", "kab", "tac");
        x.tell(0);
        x.keep(0);
        x.tell(1);
        x.give(2, 3);
        x.keep(1);
        x.tell(2);
        due("acts", x.count(6), 4);
        x.again(0);
        check.due("as kept in 0", Check.guests(x), "0:a4 wed to 1; 1:b0 wed to 0; 2:c1;");
        due("nights", x.count(2), 1);
        due("acts", x.count(6), 0);
        due("undo()", x.undo(), STATE);
        x.again(1);
        check.due("as kept in 1", Check.guests(x), "0:a4; 1:b0 dead; 2:d1;");
        due("nights", x.count(2), 2);
        x.tell(2);
        due("acts from now on", x.count(6), 1);
        due("undo()", x.undo(), 0);
        check.due("as kept in 1", Check.guests(x), "0:a4; 1:b0 dead; 2:d1;");
    }

    private void keep() {
        check.says("They are kept: how many are alive. UNKNOWN.");
        SupperTales x = Check.inn("IGa03Gb03Gc03Gd03Ga03", "kabkackad", "kaa");
        for (int slot : NO_SLOTS) {
            due("keep(" + slot + ")", x.keep(slot), UNKNOWN);
        }
        due("refused: none were kept in 0", x.again(0), STATE);
        due("refused: none were kept in 1", x.again(1), STATE);
        due("keep(0)", x.keep(0), 5);
        x.tell(0);
        due("keep(1)", x.keep(1), 2);
        due("acts stay", x.count(6), 1);
        x.tell(1);
        due("keep(0) anew", x.keep(0), 1);
        due("undo() is not kept from", x.undo(), 1);
        due("again(0): what was kept last", x.again(0), 1);
        due("again(1)", x.again(1), 2);
        due("of no guests", new SupperTales().keep(1), 0);
    }

    private void again() {
        check.says("They are as they were kept: how many are alive. UNKNOWN; STATE: none were kept.");
        SupperTales x = Check.inn("IGa03Gb03", "kab");
        x.tell(0);
        for (int slot : NO_SLOTS) {
            due("again(" + slot + ")", x.again(slot), UNKNOWN);
        }
        due("again(0)", x.again(0), STATE);
        due("again(1)", x.again(1), STATE);
        due("refused: acts", x.count(6), 1);
        due("refused: alive", x.count(3), 1);
        due("refused: nights", x.count(2), 1);
        x.undo();
        x.keep(1);
        due("again(0), when 1 was kept", x.again(0), STATE);
        x.tell(0);
        due("again(1)", x.again(1), 2);
        x.tell(0);
        due("again(1), again", x.again(1), 2);
        due("again(1) just so", x.again(1), 2);
        x.odds(3, 3, 4);
        x.seed(9);
        x.see(0, true);
        x.again(1);
        due("tales stay", x.count(9), 3);
        due("odds stay", x.odds(10, 0, 0), 3);
        due("the seed stays", x.seed(0), 9);
        due("what is seen stays", x.count(7), 1);
        due("the text stays", x.count(0), 9);
        SupperTales none = new SupperTales();
        none.keep(0);
        due("no guests were kept, but it was kept", none.again(0), 0);
        due("and not in 1", none.again(1), STATE);
    }

    private void countsAre(SupperTales x, int... want) {
        for (int what = 0; what <= 9; what++) {
            due("count(" + what + ")", x.count(what), want[what]);
        }
    }

    private void countAtFirst() {
        check.says("0 letters of THE TEXT, 1 GUESTS, 2 NIGHTS, 3 who is alive (bits), 4 who is wed (bits), 5 COINS of all, and 1000, "
                + "6 ACTS in the row, 7 SEEN, 8 NAMES that somebody alive bears (bits), 9 letters of all TALES.");
        countsAre(new SupperTales(), 0, 0, 0, 0, 0, 1000, 0, 0, 0, 0);
        countsAre(Check.inn("I"), 1, 0, 0, 0, 0, 1000, 0, 0, 0, 0);
        countsAre(Check.inn("IGa00"), 5, 1, 0, 1, 0, 1000, 0, 0, 1, 0);
        countsAre(Check.inn("IGd93Gd93Gd93Gd93Gd93"), 21, 5, 0, 31, 0, 1045, 0, 0, 8, 0);
        SupperTales x = Check.inn("IGa03Gb03Gc03Gd03Ga03", "wabwcd", "kac", "X");
        countsAre(x, 21, 5, 0, 31, 0, 1000, 0, 0, 15, 10);
        x.tell(0);
        countsAre(x, 21, 5, 1, 31, 15, 1000, 1, 0, 15, 10);
        x.tell(1);
        countsAre(x, 21, 5, 2, 27, 3, 1000, 2, 0, 11, 10);
        x.give(4, 2);
        countsAre(x, 21, 5, 2, 27, 3, 1000, 3, 0, 15, 10);
    }

    private void countOfMuch() {
        check.says("6 ACTS in the row, 7 SEEN");
        SupperTales x = Check.inn("IGa00", "kaa".repeat(8), "kab".repeat(8), "gab".repeat(8));
        while (x.count(0) < 24) {
            x.write('X');
        }
        for (int i = 0; i < 6; i++) {
            x.see(0, false);
        }
        Check.tellOften(x, 0, 13);
        countsAre(x, 24, 1, 13, 1, 0, 1000 - 104, 12, 6, 1, 72);
    }

    private void count() {
        check.says("OUTSIDE.");
        SupperTales x = Check.inn("IGa03Gb03", "kab");
        for (int what : new int[] {-1, 10, LOWEST, HIGHEST}) {
            due("count(" + what + ")", x.count(what), OUTSIDE);
            due("count(" + what + ") of a new object", new SupperTales().count(what), OUTSIDE);
        }
        due("count(9)", x.count(9), 3);
        due("count(0)", x.count(0), 9);
    }
}
