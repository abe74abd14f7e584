import java.util.ArrayList;
import java.util.List;
import java.util.function.Supplier;
import java.util.function.ToLongFunction;

/**
 * What changes nothing: every refused call and every question. Two objects are brought to the same state, the call is made
 * on one of them alone, and then all that can be seen of both is compared, to the last act and the last slot.
 */
public final class RefusedTest {
    private static final int UNKNOWN = Check.UNKNOWN, OUTSIDE = Check.OUTSIDE, STATE = Check.STATE, FULL = Check.FULL;
    private static final int LOWEST = Check.LOWEST, HIGHEST = Check.HIGHEST;
    private static final int[] WRONG_TALES = {-1, 3, LOWEST, HIGHEST};
    private static final int[] WRONG_NAMES = {-1, 4, LOWEST, HIGHEST};
    private static final int[] WRONG_GUESTS = {-1, 5, LOWEST, HIGHEST};
    private static final int[] WRONG_SLOTS = {-1, 2, LOWEST, HIGHEST};
    private static final int DEAD = 1, ALIVE = 0, LAST = 4, NEW_NAME = 3;

    private final Check check = new Check();
    private Supplier<SupperTales> maker = SupperTales::new;

    public static void main(String[] args) {
        RefusedTest test = new RefusedTest();
        test.aNewObject();
        test.maker = RefusedTest::busy;
        test.texts();
        test.acts();
        test.tales();
        test.ends();
        test.namesToGive();
        test.sights();
        test.slots();
        test.maker = RefusedTest::gone;
        test.emptyRows();
        test.maker = RefusedTest::busy;
        test.order();
        test.questions();
        test.questionsOfNames();
        test.backAndForth();
        test.check.end("RefusedTest");
    }

    /** Guest 1 is dead, 2 and 3 are wed; text, tale 1, acts and sights are full; slot 0 alone is kept. */
    private static SupperTales busy() {
        SupperTales x = Check.inn("IGa91Gb01Gc32Gd11Ga02", "kabwcd", "gab".repeat(8), "gcdtacgadk");
        x.odds(5, 3, 2);
        x.seed(99);
        x.tell(0);
        x.keep(0);
        for (int i = 0; i < 6; i++) {
            x.give(LAST, 1 + i % 2);
            x.tell(2);
        }
        x.give(LAST, 0);
        x.write('X');
        x.write('Y');
        x.write('Z');
        for (int i = 0; i < 6; i++) {
            x.see(i % 2 == 0 ? 0 : DEAD, i % 2 != 0);
        }
        return x;
    }

    /** As it was kept and gone on from: no acts; nothing is kept in slot 1; what is seen can't be. */
    private static SupperTales gone() {
        SupperTales x = busy();
        x.again(0);
        x.unsee();
        x.see(0, true);
        x.see(0, false);
        return x;
    }

    private void refused(String call, ToLongFunction<SupperTales> made, long want) {
        SupperTales x = maker.get();
        check.due(call, made.applyAsLong(x), want);
        check.due("all that can be seen behind " + call, lookAtAll(x), lookAtAll(maker.get()));
    }

    private void changesNothing(String call, ToLongFunction<SupperTales> made) {
        SupperTales x = maker.get();
        made.applyAsLong(x);
        check.due("all that can be seen behind " + call, lookAtAll(x), lookAtAll(maker.get()));
    }

    private static String lookAtAll(SupperTales x) {
        List<Long> seen = new ArrayList<>();
        for (int what = 0; what <= 9; what++) {
            seen.add((long) x.count(what));
        }
        seen.add((long) x.fault());
        for (int tale = 0; tale <= 2; tale++) {
            seen.add((long) x.slip(tale));
            seen.add((long) x.kinds(tale));
            seen.add((long) x.round(tale));
            for (int what = 0; what <= 3; what++) {
                seen.add((long) x.would(tale, what));
            }
            seen.add((long) x.likely(tale, true));
            seen.add((long) x.likely(tale, false));
        }
        seen.add((long) x.which());
        StringBuilder all = new StringBuilder(Check.guests(x));
        lookAtGuests(x, seen);
        lookAtRows(x, seen);
        all.append(' ').append(Check.guests(x)).append(seen);
        return all.toString();
    }

    private static void lookAtGuests(SupperTales x, List<Long> seen) {
        for (int guest = 0; guest < 5; guest++) {
            seen.add((long) x.guest(guest, 2));
            seen.add((long) x.toGive(guest));
            for (int name = 0; name <= 3; name++) {
                seen.add((long) x.mean(guest, name));
            }
        }
    }

    /** What can be looked at only by using it up. */
    private static void lookAtRows(SupperTales x, List<Long> seen) {
        seen.add((long) x.unsee());
        for (int tale = 0; tale <= 2; tale++) {
            seen.add((long) x.likely(tale, true));
            seen.add((long) x.likely(tale, false));
        }
        seen.add((long) x.odds(0, 0, 10));
        seen.add(x.seed(0));
        for (int i = 0; i <= 12; i++) {
            seen.add((long) x.undo());
            lookShortly(x, seen);
        }
        for (int slot = 0; slot <= 1; slot++) {
            seen.add((long) x.again(slot));
            lookShortly(x, seen);
        }
        seen.add((long) x.write('G'));
        seen.add((long) x.inn());
    }

    private static void lookShortly(SupperTales x, List<Long> seen) {
        for (int guest = 0; guest < 5; guest++) {
            seen.add((long) x.guest(guest, 0));
            seen.add((long) x.guest(guest, 1));
        }
        for (int what = 2; what <= 4; what++) {
            seen.add((long) x.count(what));
        }
    }

    private void aNewObject() {
        check.says("What is refused changes nothing.");
        refused("write(256)", x -> x.write(256), OUTSIDE);
        refused("inn()", x -> x.inn(), STATE);
        refused("quill(3, k)", x -> x.quill(3, 'k'), UNKNOWN);
        refused("quill(0, 256)", x -> x.quill(0, 256), OUTSIDE);
        refused("tell(3)", x -> x.tell(3), UNKNOWN);
        refused("give(0, 0)", x -> x.give(0, 0), UNKNOWN);
        refused("undo()", x -> x.undo(), STATE);
        refused("coins(0, 0)", x -> x.coins(0, 0), UNKNOWN);
        refused("shortest(0, 1, 0)", x -> x.shortest(0, 1, 0), OUTSIDE);
        refused("shortest(0, 0, 0)", x -> x.shortest(0, 0, 0), UNKNOWN);
        refused("mean(0, 0)", x -> x.mean(0, 0), UNKNOWN);
        refused("toGive(0)", x -> x.toGive(0), UNKNOWN);
        refused("rests(0, 1, 0)", x -> x.rests(0, 1, 0), UNKNOWN);
        refused("see(0, true)", x -> x.see(0, true), UNKNOWN);
        refused("seeCoins(0, 0)", x -> x.seeCoins(0, 0), UNKNOWN);
        refused("nights(0)", x -> x.nights(0), OUTSIDE);
        refused("again(0)", x -> x.again(0), STATE);
        refused("again(1)", x -> x.again(1), STATE);
    }

    private void texts() {
        for (int letter : new int[] {-1, 256, LOWEST, HIGHEST}) {
            refused("write(" + letter + ")", x -> x.write(letter), OUTSIDE);
            refused("quill(0, " + letter + ")", x -> x.quill(0, letter), OUTSIDE);
            refused("quill(1, " + letter + ")", x -> x.quill(1, letter), OUTSIDE);
        }
        for (int letter : new int[] {0, 'I', 'k', 255}) {
            refused("write(" + letter + ")", x -> x.write(letter), FULL);
            refused("quill(1, " + letter + ")", x -> x.quill(1, letter), FULL);
        }
        refused("inn()", x -> x.inn(), STATE);
        for (int tale : WRONG_TALES) {
            refused("quill(" + tale + ", k)", x -> x.quill(tale, 'k'), UNKNOWN);
            refused("quill(" + tale + ", 256)", x -> x.quill(tale, 256), UNKNOWN);
            refused("blot(" + tale + ")", x -> x.blot(tale), UNKNOWN);
            refused("slip(" + tale + ")", x -> x.slip(tale), UNKNOWN);
        }
        for (int guest : WRONG_GUESTS) {
            refused("guest(" + guest + ", 0)", x -> x.guest(guest, 0), UNKNOWN);
            refused("guest(" + guest + ", 5)", x -> x.guest(guest, 5), UNKNOWN);
            refused("guest(0, " + guest + ")", x -> x.guest(0, guest), OUTSIDE);
        }
        for (int name : WRONG_NAMES) {
            refused("bears(" + name + ")", x -> x.bears(name), OUTSIDE);
        }
    }

    private void acts() {
        for (int tale : WRONG_TALES) {
            refused("tell(" + tale + ")", x -> x.tell(tale), UNKNOWN);
        }
        for (int guest : WRONG_GUESTS) {
            refused("give(" + guest + ", 3)", x -> x.give(guest, NEW_NAME), UNKNOWN);
            refused("give(" + guest + ", 4)", x -> x.give(guest, 4), UNKNOWN);
        }
        for (int name : WRONG_NAMES) {
            refused("give(4, " + name + ")", x -> x.give(LAST, name), OUTSIDE);
            refused("give(1, " + name + ")", x -> x.give(DEAD, name), OUTSIDE);
        }
        for (int name = 0; name <= 3; name++) {
            int given = name;
            refused("give(1, " + name + ")", x -> x.give(DEAD, given), STATE);
        }
        refused("give(4, 0), that it bears", x -> x.give(LAST, 0), STATE);
    }

    private void tales() {
        for (int tale : WRONG_TALES) {
            refused("would(" + tale + ", 0)", x -> x.would(tale, 0), UNKNOWN);
            refused("would(" + tale + ", 4)", x -> x.would(tale, 4), UNKNOWN);
            refused("would(0, " + (tale == 3 ? 4 : tale) + ")", x -> x.would(0, tale == 3 ? 4 : tale), OUTSIDE);
            refused("coins(" + tale + ", 0)", x -> x.coins(tale, 0), UNKNOWN);
            refused("cut(" + tale + ")", x -> x.cut(tale), UNKNOWN);
            refused("chosen(" + tale + ", true)", x -> x.chosen(tale, true), UNKNOWN);
            refused("chosen(" + tale + ", false)", x -> x.chosen(tale, false), UNKNOWN);
            refused("round(" + tale + ")", x -> x.round(tale), UNKNOWN);
            refused("kinds(" + tale + ")", x -> x.kinds(tale), UNKNOWN);
        }
        for (int guest : WRONG_GUESTS) {
            refused("coins(0, " + guest + ")", x -> x.coins(0, guest), UNKNOWN);
            refused("coins(3, " + guest + ")", x -> x.coins(3, guest), UNKNOWN);
        }
        refused("chosen(1, true) of 8 deeds", x -> x.chosen(1, true), STATE);
        refused("chosen(1, false) of 8 deeds", x -> x.chosen(1, false), STATE);
    }

    private void ends() {
        int[][] outside = {{0, -1, 0}, {0, 4, 0}, {0, LOWEST, 0}, {0, HIGHEST, 0}, {5, 4, 0}, {0, 1, -1}, {0, 1, 5}, {5, 1, 5},
            {0, 1, HIGHEST}, {0, 2, -1}, {0, 2, 21}, {-1, 2, 21}, {0, 2, LOWEST}, {0, 3, -1}, {0, 3, 4}, {5, 3, 4}, {0, 3, HIGHEST}};
        for (int[] e : outside) {
            refusedEnd(e, OUTSIDE);
        }
        int[][] unknown = {{-1, 0, 0}, {5, 0, 0}, {LOWEST, 0, 0}, {HIGHEST, 0, 0}, {5, 1, 0}, {-1, 1, 4}, {5, 2, 0}, {-1, 2, 20}, {5, 3, 3}};
        for (int[] e : unknown) {
            refusedEnd(e, UNKNOWN);
        }
        refused("shortestAt(0, 0, 0, -1)", x -> x.shortestAt(0, 0, 0, -1), OUTSIDE);
        refused("shortestAt(5, 0, 0, -1)", x -> x.shortestAt(5, 0, 0, -1), OUTSIDE);
    }

    private void refusedEnd(int[] e, int want) {
        String of = "(" + e[0] + ", " + e[1] + ", " + e[2];
        refused("shortest" + of + ")", x -> x.shortest(e[0], e[1], e[2]), want);
        refused("shortestAt" + of + ", 0)", x -> x.shortestAt(e[0], e[1], e[2], 0), want);
    }

    private void namesToGive() {
        int[][] wrongOdds = {{3, 3, 3}, {3, 4, 4}, {-1, 1, 10}, {11, 0, -1}, {0, 11, -1}, {HIGHEST, HIGHEST, 12}, {0, 0, 0}};
        for (int[] o : wrongOdds) {
            refused("odds(" + o[0] + ", " + o[1] + ", " + o[2] + ")", x -> x.odds(o[0], o[1], o[2]), OUTSIDE);
        }
        for (int guest : WRONG_GUESTS) {
            refused("mean(" + guest + ", 0)", x -> x.mean(guest, 0), UNKNOWN);
            refused("mean(" + guest + ", 4)", x -> x.mean(guest, 4), UNKNOWN);
            refused("toGive(" + guest + ")", x -> x.toGive(guest), UNKNOWN);
            refused("rests(" + guest + ", 0, 0)", x -> x.rests(guest, 0, 0), UNKNOWN);
            refused("rests(0, " + guest + ", 1)", x -> x.rests(0, guest, 1), UNKNOWN);
            refused("rests(" + guest + ", " + guest + ", 2)", x -> x.rests(guest, guest, 2), UNKNOWN);
        }
        for (int name : WRONG_NAMES) {
            refused("mean(0, " + name + ")", x -> x.mean(ALIVE, name), OUTSIDE);
            refused("mean(1, " + name + ")", x -> x.mean(DEAD, name), OUTSIDE);
        }
        for (int what : new int[] {-1, 2, LOWEST, HIGHEST}) {
            refused("rests(0, 2, " + what + ")", x -> x.rests(0, 2, what), OUTSIDE);
            refused("rests(0, 1, " + what + ")", x -> x.rests(0, DEAD, what), OUTSIDE);
        }
        refused("mean(1, 0)", x -> x.mean(DEAD, 0), STATE);
        refused("toGive(1)", x -> x.toGive(DEAD), STATE);
        refused("rests(0, 0, 0)", x -> x.rests(0, 0, 0), OUTSIDE);
        refused("rests(1, 1, 0)", x -> x.rests(DEAD, DEAD, 0), OUTSIDE);
        refused("rests(0, 1, 0)", x -> x.rests(0, DEAD, 0), STATE);
        refused("rests(1, 0, 1)", x -> x.rests(DEAD, 0, 1), STATE);
    }

    private void sights() {
        for (int guest : WRONG_GUESTS) {
            refused("see(" + guest + ", true)", x -> x.see(guest, true), UNKNOWN);
            refused("see(" + guest + ", false)", x -> x.see(guest, false), UNKNOWN);
            refused("seeCoins(" + guest + ", 0)", x -> x.seeCoins(guest, 0), UNKNOWN);
            refused("seeCoins(" + guest + ", 51)", x -> x.seeCoins(guest, 51), UNKNOWN);
        }
        for (int n : new int[] {-51, 51, LOWEST, HIGHEST}) {
            refused("seeCoins(0, " + n + ")", x -> x.seeCoins(0, n), OUTSIDE);
        }
        for (int n : new int[] {-50, 0, 50}) {
            refused("seeCoins(0, " + n + ")", x -> x.seeCoins(0, n), FULL);
        }
        refused("see(0, true)", x -> x.see(0, true), FULL);
        refused("see(0, false)", x -> x.see(0, false), FULL);
        for (int tale : WRONG_TALES) {
            refused("likely(" + tale + ", true)", x -> x.likely(tale, true), UNKNOWN);
            refused("likely(" + tale + ", false)", x -> x.likely(tale, false), UNKNOWN);
        }
        for (int m : new int[] {0, 41, -1, LOWEST, HIGHEST}) {
            refused("nights(" + m + ")", x -> x.nights(m), OUTSIDE);
        }
    }

    private void slots() {
        for (int slot : WRONG_SLOTS) {
            refused("keep(" + slot + ")", x -> x.keep(slot), UNKNOWN);
            refused("again(" + slot + ")", x -> x.again(slot), UNKNOWN);
        }
        refused("again(1)", x -> x.again(1), STATE);
        for (int what : new int[] {-1, 10, LOWEST, HIGHEST}) {
            refused("count(" + what + ")", x -> x.count(what), OUTSIDE);
        }
    }

    private void emptyRows() {
        refused("undo()", x -> x.undo(), STATE);
        for (int tale = 0; tale <= 2; tale++) {
            int asked = tale;
            refused("likely(" + tale + ", true)", x -> x.likely(asked, true), STATE);
            refused("likely(" + tale + ", false)", x -> x.likely(asked, false), STATE);
        }
    }

    /** Each call to which several refusals apply at once, pair by pair. */
    private void order() {
        check.says("REFUSALS, of several the first that a call names");
        refused("write: OUTSIDE ahead of FULL", x -> x.write(256), OUTSIDE);
        refused("quill: UNKNOWN ahead of OUTSIDE", x -> x.quill(3, 256), UNKNOWN);
        refused("quill: OUTSIDE ahead of FULL", x -> x.quill(1, 256), OUTSIDE);
        refused("guest: UNKNOWN ahead of OUTSIDE", x -> x.guest(5, 5), UNKNOWN);
        refused("give: UNKNOWN ahead of OUTSIDE", x -> x.give(5, 4), UNKNOWN);
        refused("give: OUTSIDE ahead of STATE", x -> x.give(DEAD, 4), OUTSIDE);
        refused("would: UNKNOWN ahead of OUTSIDE", x -> x.would(3, 4), UNKNOWN);
        refused("shortest: OUTSIDE, an end, ahead of UNKNOWN", x -> x.shortest(5, 4, 0), OUTSIDE);
        refused("shortest: OUTSIDE, a guest v, ahead of UNKNOWN", x -> x.shortest(5, 1, 5), OUTSIDE);
        refused("shortestAt: OUTSIDE, an end, ahead of UNKNOWN", x -> x.shortestAt(5, 4, 0, 0), OUTSIDE);
        refused("shortestAt: OUTSIDE, a guest v, ahead of UNKNOWN", x -> x.shortestAt(5, 1, 5, 0), OUTSIDE);
        refused("mean: UNKNOWN ahead of OUTSIDE", x -> x.mean(5, 4), UNKNOWN);
        refused("mean: OUTSIDE ahead of STATE", x -> x.mean(DEAD, 4), OUTSIDE);
        refused("rests: UNKNOWN ahead of OUTSIDE, both are one", x -> x.rests(5, 5, 0), UNKNOWN);
        refused("rests: UNKNOWN ahead of OUTSIDE, what", x -> x.rests(0, 5, 2), UNKNOWN);
        refused("rests: UNKNOWN ahead of STATE", x -> x.rests(DEAD, 5, 0), UNKNOWN);
        refused("rests: OUTSIDE, both are one, ahead of STATE", x -> x.rests(DEAD, DEAD, 0), OUTSIDE);
        refused("rests: OUTSIDE, what, ahead of STATE", x -> x.rests(0, DEAD, 2), OUTSIDE);
        refused("see: UNKNOWN ahead of FULL", x -> x.see(5, true), UNKNOWN);
        refused("seeCoins: UNKNOWN ahead of OUTSIDE", x -> x.seeCoins(5, 51), UNKNOWN);
        refused("seeCoins: UNKNOWN ahead of FULL", x -> x.seeCoins(5, 0), UNKNOWN);
        refused("seeCoins: OUTSIDE ahead of FULL", x -> x.seeCoins(0, 51), OUTSIDE);
        maker = RefusedTest::gone;
        refused("likely: UNKNOWN ahead of STATE", x -> x.likely(3, true), UNKNOWN);
        maker = RefusedTest::busy;
    }

    private void questions() {
        check.says("In what follows nothing is changed.");
        changesNothing("fault()", x -> x.fault());
        for (int tale = 0; tale <= 2; tale++) {
            int t = tale;
            changesNothing("slip(" + t + ")", x -> x.slip(t));
            for (int what = 0; what <= 3; what++) {
                int w = what;
                changesNothing("would(" + t + ", " + w + ")", x -> x.would(t, w));
            }
            changesNothing("coins(" + t + ", 4)", x -> x.coins(t, LAST));
            changesNothing("cut(" + t + ")", x -> x.cut(t));
            changesNothing("chosen(" + t + ", true)", x -> x.chosen(t, true));
            changesNothing("chosen(" + t + ", false)", x -> x.chosen(t, false));
            changesNothing("round(" + t + ")", x -> x.round(t));
            changesNothing("kinds(" + t + ")", x -> x.kinds(t));
            changesNothing("likely(" + t + ", true)", x -> x.likely(t, true));
        }
        for (int end = 0; end <= 3; end++) {
            for (int guest = 0; guest < 5; guest++) {
                int e = end;
                int g = guest;
                changesNothing("shortest(" + g + ", " + e + ", 2)", x -> x.shortest(g, e, 2));
                changesNothing("shortestAt(" + g + ", " + e + ", 2, 1)", x -> x.shortestAt(g, e, 2, 1));
            }
        }
        changesNothing("shortest(0, 2, 20), by none", x -> x.shortest(0, 2, 20));
    }

    private void questionsOfNames() {
        for (int guest = 0; guest < 5; guest++) {
            int g = guest;
            for (int n = 0; n <= 3; n++) {
                int name = n;
                changesNothing("mean(" + g + ", " + name + ")", x -> x.mean(g, name));
                changesNothing("guest(" + g + ", " + name + ")", x -> x.guest(g, name));
                changesNothing("bears(" + name + ")", x -> x.bears(name));
            }
            changesNothing("toGive(" + g + ")", x -> x.toGive(g));
            changesNothing("rests(" + g + ", 0, 0)", x -> x.rests(g, 0, 0));
            changesNothing("rests(3, " + g + ", 1)", x -> x.rests(3, g, 1));
        }
        changesNothing("which()", x -> x.which());
        for (int what = 0; what <= 9; what++) {
            int w = what;
            changesNothing("count(" + what + ")", x -> x.count(w));
        }
    }

    /** What is done and taken back leaves nothing else behind. */
    private void backAndForth() {
        check.says("(Nothing changes but THE SEED.)");
        changesNothing("nights(40) and the former seed", x -> x.nights(40) + x.seed(99));
        changesNothing("nights(1) and the former seed", x -> x.nights(1) + x.seed(99));
        check.says("THE SEED is v: what it was.");
        changesNothing("seed there and back", x -> x.seed(7) + x.seed(99));
        check.says("ODDS: what those of TALE 0 were.");
        changesNothing("odds there and back", x -> x.odds(0, 1, 9) + x.odds(5, 3, 2));
        maker = RefusedTest::gone;
        check.says("They are kept: how many are alive.");
        refused("keep(0) of what was kept there", x -> x.keep(0), 4);
        check.says("The last ACT is undone: how many are left.");
        for (int tale = 0; tale <= 2; tale++) {
            int t = tale;
            refused("tell(" + t + ") and undo()", x -> 0 * x.tell(t) + x.undo(), 0);
        }
        refused("give(4, 3) and undo()", x -> x.give(LAST, NEW_NAME) + 10 * x.undo(), 0);
        refused("a name, a night, and undo() of both", x -> x.give(LAST, NEW_NAME) + x.tell(1) * 0 + 10 * x.undo() + x.undo(), 10);
        check.says("They are as they were kept: how many are alive.");
        refused("tell(1), tell(2), again(0)", x -> 0 * x.tell(1) + 0 * x.tell(2) + x.again(0), 4);
    }
}
