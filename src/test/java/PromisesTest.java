/** The promises one by one: ordinary inputs, the edges that the document names, wrong inputs; worked out by hand. */
public final class PromisesTest {
    private static final int UNKNOWN = -1, OUTSIDE = -2, STATE = -3, FULL = -4, NONE = -9;
    private static final int LOWEST = Integer.MIN_VALUE, HIGHEST = Integer.MAX_VALUE;

    private final Check check = new Check();
    private int promise;

    public static void main(String[] args) {
        PromisesTest test = new PromisesTest();
        test.texts();
        test.acts();
        test.tales();
        test.names();
        test.seen();
        test.slots();
        test.check.end("PromisesTest");
    }

    private void due(String call, long got, long want) {
        check.due("promise " + promise + ": " + call, got, want);
    }

    private void texts() {
        promise = 1;
        newObject();
        promise = 2;
        write();
        promise = 3;
        wipe();
        promise = 4;
        fault();
        promise = 5;
        inn();
        promise = 6;
        quill();
        promise = 7;
        blot();
        promise = 8;
        slip();
        promise = 9;
        guest();
        promise = 10;
        bears();
    }

    private void acts() {
        promise = 11;
        tellDeeds();
        tellFines();
        tellFaulty();
        promise = 12;
        give();
        promise = 13;
        undo();
    }

    private void tales() {
        promise = 14;
        would();
        promise = 15;
        coins();
        promise = 16;
        shortest();
        promise = 17;
        shortestAt();
        promise = 18;
        cut();
        promise = 19;
        chosen();
        promise = 20;
        round();
        promise = 21;
        kinds();
    }

    private void names() {
        promise = 22;
        odds();
        promise = 23;
        mean();
        promise = 24;
        toGive();
        promise = 25;
        rests();
    }

    private void seen() {
        promise = 26;
        see();
        promise = 27;
        seeCoins();
        promise = 28;
        unsee();
        promise = 29;
        which();
        promise = 30;
        likely();
        promise = 31;
        seed();
        promise = 32;
        nights();
    }

    private void slots() {
        promise = 33;
        keep();
        promise = 34;
        again();
        promise = 35;
        count();
    }

    private void newObject() {
        SupperTales x = new SupperTales();
        long[] want = {0, 0, 0, 0, 0, 1000, 0, 0, 0, 0};
        for (int what = 0; what < want.length; what++) {
            due("count(" + what + ") at first", x.count(what), want[what]);
        }
        due("guest(0, 0) at first", x.guest(0, 0), UNKNOWN);
        for (int tale = 0; tale < 3; tale++) {
            due("slip at first", x.slip(tale), NONE);
        }
        due("undo at first", x.undo(), STATE);
        due("again at first", x.again(0), STATE);
        due("odds at first", x.odds(0, 0, 10), 10);
        due("seed at first", x.seed(1), 0);
        due("UNKNOWN", SupperTales.UNKNOWN, UNKNOWN);
        due("OUTSIDE", SupperTales.OUTSIDE, OUTSIDE);
        due("STATE", SupperTales.STATE, STATE);
        due("FULL", SupperTales.FULL, FULL);
        due("NONE", SupperTales.NONE, NONE);
    }

    private void write() {
        SupperTales x = new SupperTales();
        due("write(-1)", x.write(-1), OUTSIDE);
        due("write(256)", x.write(256), OUTSIDE);
        due("write(lowest)", x.write(LOWEST), OUTSIDE);
        due("count(0) behind refusals", x.count(0), 0);
        due("write(0)", x.write(0), 1);
        due("write(255)", x.write(255), 2);
        for (int i = 3; i <= 24; i++) {
            due("write, the " + i + "th", x.write('I'), i);
        }
        due("write, the 25th", x.write('I'), FULL);
        due("write(256) when full", x.write(256), OUTSIDE);
        due("count(0) when full", x.count(0), 24);
    }

    private void wipe() {
        SupperTales x = Check.inn("IGa11");
        due("wipe()", x.wipe(), 5);
        due("wipe() again", x.wipe(), 0);
        due("guests stay", x.count(1), 1);
        due("write behind wipe", x.write('I'), 1);
    }

    private void faultOf(String letters, int want) {
        SupperTales x = new SupperTales();
        Check.text(x, letters);
        due("fault() of " + letters, x.fault(), want);
        Check.tale(x, 0, "kab");
        due("inn() of " + letters, x.inn() >= 0 ? 1 : 0, want == NONE ? 1 : 0);
    }

    private void fault() {
        faultOf("", 0);
        faultOf("I", NONE);
        faultOf("i", 0);
        faultOf("G", 0);
        faultOf("II", 1);
        faultOf("IG", 2);
        faultOf("IGA", 2);
        faultOf("IGd", 3);
        faultOf("IGe", 2);
        faultOf("IGd9", 4);
        faultOf("IGd:", 3);
        faultOf("IGd/", 3);
        faultOf("IGd93", NONE);
        faultOf("IGd94", 4);
        faultOf("IGd9/", 4);
        faultOf("IGd93G", 6);
        faultOf("IGd93I", 5);
        faultOf("IGa00Gb11Gc22Gd33Ga93", NONE);
        faultOf("IGa00Gb11Gc22Gd33Ga9", 20);
        faultOf("IGa00Gb11Gc22Gd33Ga93G", 21);
        faultOf("IGa00Gb11Gc22Gd33Ga93Ga0", 21);
        faultOf("XGa00Gb11Gc22Gd33Ga93Ga0", 0);
    }

    private void inn() {
        SupperTales x = new SupperTales();
        due("inn() of no text", x.inn(), STATE);
        Check.text(x, "I");
        due("inn() of I", x.inn(), 0);
        Check.text(x, "IGa92Gb13");
        due("inn()", x.inn(), 2);
        due("the text stays", x.count(0), 9);
        Check.tale(x, 0, "kab");
        x.odds(4, 3, 3);
        x.see(0, false);
        x.seed(77);
        x.tell(0);
        x.keep(1);
        x.write('G');
        due("inn() of a text not at its end", x.inn(), STATE);
        due("refused: nights", x.count(2), 1);
        due("refused: alive", x.count(3), 1);
        due("refused: acts", x.count(6), 1);
        due("refused: kept", x.again(1), 1);
        x.tell(0);
        Check.text(x, "IGa92Gb13");
        due("inn() anew", x.inn(), 2);
        due("anew: nights", x.count(2), 0);
        due("anew: alive", x.count(3), 3);
        due("anew: acts", x.count(6), 0);
        due("anew: kept", x.again(1), STATE);
        due("anew: tales stay", x.count(9), 3);
        due("anew: seen stays", x.count(7), 1);
        due("anew: seed stays", x.seed(0), 77);
        due("anew: odds stay", x.odds(10, 0, 0), 4);
        Check.text(x, "I");
        due("inn() without guests", x.inn(), 0);
        due("no guest any more", x.guest(0, 0), UNKNOWN);
        due("nobody alive", x.count(3), 0);
    }

    private void quill() {
        SupperTales x = new SupperTales();
        due("quill(3, 256)", x.quill(3, 256), UNKNOWN);
        due("quill(-1, 107)", x.quill(-1, 107), UNKNOWN);
        due("quill(2, 256)", x.quill(2, 256), OUTSIDE);
        due("quill(2, -1)", x.quill(2, -1), OUTSIDE);
        due("count(9) behind refusals", x.count(9), 0);
        due("quill(0, 0)", x.quill(0, 0), 1);
        due("quill(1, 255)", x.quill(1, 255), 1);
        for (int i = 1; i <= 24; i++) {
            due("quill, the " + i + "th", x.quill(2, 'k'), i);
        }
        due("quill, the 25th", x.quill(2, 'k'), FULL);
        due("quill(2, 256) when full", x.quill(2, 256), OUTSIDE);
        due("count(9)", x.count(9), 26);
    }

    private void blot() {
        SupperTales x = Check.inn("I", "kab", "w", "");
        due("blot(3)", x.blot(3), UNKNOWN);
        due("blot(-1)", x.blot(-1), UNKNOWN);
        due("blot(0)", x.blot(0), 3);
        due("blot(0) again", x.blot(0), 0);
        due("blot(2)", x.blot(2), 0);
        due("tale 1 stays", x.count(9), 1);
        due("quill behind blot", x.quill(0, 'k'), 1);
    }

    private void slipOf(String letters, int want) {
        due("slip of " + letters, Check.inn("I", "", letters).slip(1), want);
    }

    private void slip() {
        slipOf("", NONE);
        slipOf("k", 1);
        slipOf("ka", 2);
        slipOf("kab", NONE);
        slipOf("wdd", NONE);
        slipOf("gabtcd", NONE);
        slipOf("xab", 0);
        slipOf("kke", 1);
        slipOf("kae", 2);
        slipOf("kabx", 3);
        slipOf("kabg", 4);
        slipOf("kabgaBk", 5);
        slipOf("kabkabkabkabkabkabkabkab", NONE);
        slipOf("kabkabkabkabkabkabkabkae", 23);
        SupperTales x = new SupperTales();
        due("slip(3)", x.slip(3), UNKNOWN);
        due("slip(-1)", x.slip(-1), UNKNOWN);
    }

    private void guestIs(SupperTales x, int guest, int name, int coins, int power, int alive, int wed) {
        int[] want = {name, coins + 100, power, alive, wed};
        for (int what = 0; what < want.length; what++) {
            due("guest(" + guest + ", " + what + ")", x.guest(guest, what), want[what]);
        }
    }

    private void guest() {
        SupperTales x = Check.inn("IGa01Gb92Gd53", "wabkda");
        guestIs(x, 0, 0, 0, 1, 1, NONE);
        guestIs(x, 1, 1, 9, 2, 1, NONE);
        guestIs(x, 2, 3, 5, 3, 1, NONE);
        due("guest(3, 9)", x.guest(3, 9), UNKNOWN);
        due("guest(-1, 0)", x.guest(-1, 0), UNKNOWN);
        due("guest(0, 5)", x.guest(0, 5), OUTSIDE);
        due("guest(0, -1)", x.guest(0, -1), OUTSIDE);
        Check.tale(x, 0, "wab");
        x.tell(0);
        guestIs(x, 0, 0, 0, 1, 1, 1);
        guestIs(x, 1, 1, 9, 2, 1, 0);
        Check.tale(x, 0, "kda");
        x.tell(0);
        guestIs(x, 0, 0, 0, 1, 0, NONE);
        guestIs(x, 1, 1, 9, 2, 1, NONE);
        SupperTales y = Check.inn("IGa03Gb03Gc03", "wbcwba", "kac");
        y.tell(0);
        guestIs(y, 0, 0, 0, 3, 1, NONE);
        guestIs(y, 1, 1, -1, 3, 1, 2);
        guestIs(y, 2, 2, 0, 3, 1, 1);
        y.tell(1);
        guestIs(y, 1, 1, -1, 3, 1, NONE);
        guestIs(y, 2, 2, 0, 3, 0, NONE);
    }

    private void bears() {
        SupperTales x = Check.inn("IGa03Gb03Ga03Gd03Ga03", "kba");
        due("bears(0)", x.bears(0), 1 + 4 + 16);
        due("bears(1)", x.bears(1), 2);
        due("bears(2)", x.bears(2), 0);
        due("bears(3)", x.bears(3), 8);
        due("bears(4)", x.bears(4), OUTSIDE);
        due("bears(-1)", x.bears(-1), OUTSIDE);
        x.tell(0);
        due("bears(0) when 0 is dead", x.bears(0), 4 + 16);
    }

    private void told(String inn, String tale, int want) {
        due("tell " + tale + " in " + inn, Check.inn(inn, tale).tell(0), want);
    }

    private void tellDeeds() {
        SupperTales x = Check.inn("IGa21Ga03Gb11", "gabgabtaa");
        due("each as long as it has power", x.tell(0), 1 + 4);
        guestIs(x, 0, 0, 1, 1, 1, NONE);
        guestIs(x, 1, 0, -1, 3, 1, NONE);
        guestIs(x, 2, 1, 2, 1, 1, NONE);
        due("power anew", x.tell(0), 1 + 4);
        due("nights", x.count(2), 2);
        told("IGa03Ga03Gb03", "kaakaakaa", 1);
        told("IGa03Gb03", "tabtba", 1);
        told("IGa03Gb03Ga03", "tab", 1);
        told("IGa03Gb03", "wabkabwab", 3);
        told("IGa03Ga03Ga03", "waakaawaa", 7);
        told("IGa03Gb03Gc03Gd03", "wabwcdwbckabwbc", 1 + 2 + 8);
        due("tell(3)", x.tell(3), UNKNOWN);
        due("tell(-1)", x.tell(-1), UNKNOWN);
        due("refused: nights", x.count(2), 2);
        due("refused: acts", x.count(6), 2);
        due("an empty tale", x.tell(1), 0);
        due("is a night", x.count(2), 3);
        SupperTales y = Check.inn("IGb03Ga00Ga01Gb02", "tabkbb");
        due("who has power left, though not the least", y.tell(0), 3);
        guestIs(y, 2, 1, 0, 1, 0, NONE);
        guestIs(y, 1, 0, 0, 0, 1, NONE);
        due("the least other but the doer", y.count(3), 1 + 2 + 8);
    }

    private void tellFines() {
        SupperTales x = Check.inn("IGa00Ga00Gb03", "kabkabkcb");
        due("nobody has power", x.tell(0), 0);
        due("the least is fined each time", x.guest(0, 1), 98);
        due("not the other", x.guest(1, 1), 100);
        due("nobody alive bears it: nothing", x.count(5), 998);
        Check.tale(x, 0, "kbckbb");
        due("no other", x.tell(0), 0);
        due("the doer is fined", x.guest(2, 1), 98);
        SupperTales y = Check.inn("IGa03Gb03Gc01", "wabwabwcawca");
        due("wed already", y.tell(0), 1);
        due("the doer is fined, wed itself", y.guest(0, 1), 99);
        due("and if the other is wed; it takes no power", y.guest(2, 1), 98);
        due("not the other", y.guest(1, 1), 100);
        SupperTales z = Check.inn("IGa11Gb00", "gab");
        due("gives its coin", z.tell(0), 1);
        due("has none to give", z.tell(0), 0);
        due("has less than none", z.guest(0, 1), 99);
        due("other has one", z.guest(1, 1), 101);
        due("none again", z.tell(0), 0);
        due("less still", z.guest(0, 1), 98);
    }

    private void tellFaulty() {
        told("IGa03Gb03", "gabtab", 2);
        told("IGa93Gb03", "gabgabxabgab", 3);
        told("IGa93Gb03", "gabgabga", 3);
        told("IGa93Gb03", "gaegab", 0);
        told("IGa93Gb03", "Xgabgab", 0);
    }

    private void give() {
        SupperTales x = Check.inn("IGa03Gb03", "kab");
        due("give(2, 4)", x.give(2, 4), UNKNOWN);
        due("give(-1, 0)", x.give(-1, 0), UNKNOWN);
        due("give(0, 4)", x.give(0, 4), OUTSIDE);
        due("give(0, -1)", x.give(0, -1), OUTSIDE);
        due("give(0, 0): bears it", x.give(0, 0), STATE);
        due("refused: acts", x.count(6), 0);
        due("give(0, 3)", x.give(0, 3), 0);
        due("its name", x.guest(0, 0), 3);
        due("an act", x.count(6), 1);
        due("no night", x.count(2), 0);
        due("give(0, 0)", x.give(0, 0), 3);
        x.tell(0);
        due("give(1, 2): dead", x.give(1, 2), STATE);
        due("give(1, 4): dead, no such name", x.give(1, 4), OUTSIDE);
    }

    private void undo() {
        SupperTales x = Check.inn("IGa53Gb03", "gab", "kba");
        x.tell(0);
        x.give(1, 2);
        x.give(1, 1);
        x.tell(1);
        due("undo a killing", x.undo(), 3);
        due("alive", x.count(3), 3);
        due("nights", x.count(2), 1);
        due("undo a name", x.undo(), 2);
        due("its name", x.guest(1, 0), 2);
        due("undo a name", x.undo(), 1);
        due("undo a gift", x.undo(), 0);
        due("its coins", x.guest(0, 1), 105);
        due("nights", x.count(2), 0);
        due("none", x.undo(), STATE);
        for (int i = 0; i < 13; i++) {
            x.give(0, 1 + i % 2);
        }
        due("12 acts at most", x.count(6), 12);
        for (int left = 11; left >= 0; left--) {
            due("undo", x.undo(), left);
        }
        due("the first one is forgotten", x.guest(0, 0), 1);
        due("none", x.undo(), STATE);
    }

    private void would() {
        SupperTales x = Check.inn("IGa13Gb20Gc03", "gabgabkbckcb");
        due("would(0, 0)", x.would(0, 0), 1 + 8);
        due("would(0, 1): each fine counts", x.would(0, 1), 2);
        due("would(0, 2)", x.would(0, 2), 2);
        due("would(0, 3)", x.would(0, 3), 1001);
        due("would(1, 3)", x.would(1, 3), 1003);
        due("would(3, 4)", x.would(3, 4), UNKNOWN);
        due("would(-1, 0)", x.would(-1, 0), UNKNOWN);
        due("would(0, 4)", x.would(0, 4), OUTSIDE);
        due("would(0, -1)", x.would(0, -1), OUTSIDE);
        due("nothing changes", x.count(5) * 100 + x.count(6) * 10 + x.count(3), 100307);
        x.tell(0);
        due("who was dead is dead then", x.would(1, 2), 2);
        Check.tale(x, 0, "kaakac");
        due("one fine and one dead more", x.would(0, 2), 2 + 4);
        due("of one guest", Check.inn("IGa03", "kaakaawaa").would(0, 1), 3);
    }

    private void coins() {
        SupperTales x = Check.inn("IGa13Gb20", "gabgabkab");
        due("coins(0, 0)", x.coins(0, 0), 99);
        due("coins(0, 1): dead then", x.coins(0, 1), 103);
        due("coins(1, 1)", x.coins(1, 1), 102);
        due("coins(3, 0)", x.coins(3, 0), UNKNOWN);
        due("coins(-1, 0)", x.coins(-1, 0), UNKNOWN);
        due("coins(0, 2)", x.coins(0, 2), UNKNOWN);
        due("coins(0, -1)", x.coins(0, -1), UNKNOWN);
        due("nothing changes", x.guest(0, 1), 101);
    }

    private void shortest() {
        SupperTales x = Check.inn("IGa21Gb01Gc00Gb00", "kba");
        due("alive, nobody has to do anything", x.shortest(0, 2, 2), 0);
        due("bears it", x.shortest(3, 3, 1), 0);
        due("dead by one", x.shortest(0, 0, 99), 1);
        due("the second b by the first one", x.shortest(3, 0, -7), 1);
        due("the first b by a", x.shortest(1, 0, HIGHEST), 1);
        due("wed by one", x.shortest(0, 1, 2), 1);
        due("wed to itself", x.shortest(0, 1, 0), NONE);
        due("one coin", x.shortest(2, 2, 1), 1);
        due("two coins: power for one only", x.shortest(2, 2, 2), NONE);
        due("takes a name", x.shortest(1, 3, 2), 1);
        due("a name that nobody bears", x.shortest(1, 3, 3), NONE);
        due("no coin or more", x.shortest(0, 2, 0), 0);
        due("the third of a name by two", Check.inn("IGa03Ga03Ga93").shortest(2, 0, 0), 2);
        due("no power", x.shortest(2, 3, 0), NONE);
        due("end -1", x.shortest(0, -1, 0), OUTSIDE);
        due("end 4, no such guest", x.shortest(9, 4, 0), OUTSIDE);
        due("v no guest", x.shortest(0, 1, 4), OUTSIDE);
        due("v no guest", x.shortest(0, 1, -1), OUTSIDE);
        due("v -1 coins", x.shortest(0, 2, -1), OUTSIDE);
        due("v 21 coins", x.shortest(0, 2, 21), OUTSIDE);
        due("v 20 coins", x.shortest(0, 2, 20), NONE);
        due("v no name", x.shortest(0, 3, 4), OUTSIDE);
        due("v no name, no such guest", x.shortest(9, 3, -1), OUTSIDE);
        due("no such guest", x.shortest(4, 0, 0), UNKNOWN);
        due("no such guest", x.shortest(-1, 3, 0), UNKNOWN);
        x.tell(0);
        due("dead already", x.shortest(0, 0, 0), 0);
        due("has coins though dead", x.shortest(0, 2, 2), 0);
        due("bears its name though dead", x.shortest(0, 3, 0), 0);
        due("nothing changes", x.count(2), 1);
    }

    private void shortestAt() {
        SupperTales x = Check.inn("IGa21Gb01Gc00Gb00");
        due("kba", x.shortestAt(0, 0, 0, 0), 10);
        due("no second one", x.shortestAt(0, 0, 0, 1), NONE);
        due("none at all", x.shortestAt(3, 3, 1, 0), NONE);
        due("far too many", x.shortestAt(0, 0, 0, HIGHEST), NONE);
        due("wac", x.shortestAt(0, 1, 2, 0), 102);
        due("gac", x.shortestAt(2, 2, 1, 0), 202);
        due("tbc", x.shortestAt(1, 3, 2, 0), 312);
        due("kbb", x.shortestAt(3, 0, 0, 0), 11);
        due("kab", x.shortestAt(1, 0, 0, 0), 1);
        due("by none", x.shortestAt(2, 2, 2, 0), NONE);
        due("i -1", x.shortestAt(0, 0, 0, -1), OUTSIDE);
        due("i -1, no such guest", x.shortestAt(9, 0, 0, -1), OUTSIDE);
        due("end 4, no such guest", x.shortestAt(9, 4, 0, 0), OUTSIDE);
        due("no such guest", x.shortestAt(9, 0, 0, 0), UNKNOWN);
        SupperTales y = Check.inn("IGa03Ga03Ga93");
        due("kaa, kaa", y.shortestAt(2, 0, 0, 0) * 1000 + y.shortestAt(2, 0, 0, 1), 0);
        due("0 weds 2 when 1 is dead", y.shortestAt(0, 1, 2, 0), 0);
        due("by waa", y.shortestAt(0, 1, 2, 1), 100);
    }

    private void cut() {
        due("all are done", Check.inn("IGa93Gb03", "gabgab").cut(0), 0);
        due("of like ones the least", Check.inn("IGa91Gb00", "gabgab").cut(0), 1);
        due("only the last one has another kind", Check.inn("IGa01Gb01", "gabkab").cut(0), 1);
        due("all must go", Check.inn("IGa03Gb03", "kcdkcdkcd").cut(0), 7);
        due("leaving a killing out helps two", Check.inn("IGa93Gb03", "kabgabgab").cut(0), 1);
        due("an empty tale", Check.inn("IGa93Gb03").cut(0), 0);
        due("its whole deeds alone", Check.inn("IGa03Gb03", "gabgabxx").cut(0), 3);
        due("eight", Check.inn("IGa93Gb03", "gabgabgabgabgabgabgabgab").cut(0), 31);
        due("fewest ahead of least", Check.inn("IGa01Gb03", "tbawaakba").cut(0), 4);
        due("cut(3)", new SupperTales().cut(3), UNKNOWN);
        due("cut(-1)", new SupperTales().cut(-1), UNKNOWN);
        SupperTales x = Check.inn("IGa93Gb03", "kab");
        x.cut(0);
        due("nothing changes", x.count(3) * 10 + x.count(2), 30);
    }

    private void chosen() {
        SupperTales x = Check.inn("IGa01Ga01Gb01Gb00", "kab", "kba", "kabkba");
        due("either b", x.chosen(0, false), 4 + 8);
        due("no b for sure", x.chosen(0, true), 0);
        due("2 alone has power: either a", x.chosen(1, false), 3);
        due("2 may be dead, then 3 has no power", x.chosen(2, false), 15);
        due("none by all", x.chosen(2, true), 0);
        Check.tale(x, 0, "kabkab");
        due("both b by all choices", x.chosen(0, true), 12);
        Check.tale(x, 0, "kabkabkabkab");
        due("4 deeds", x.chosen(0, true), 12);
        Check.tale(x, 0, "kabkabkabkabk");
        due("4 whole deeds", x.chosen(0, true), 12);
        Check.tale(x, 0, "kabkabkabkabkab");
        due("5 deeds", x.chosen(0, true), STATE);
        due("5 deeds", x.chosen(0, false), STATE);
        due("chosen(3)", x.chosen(3, true), UNKNOWN);
        due("chosen(-1)", x.chosen(-1, false), UNKNOWN);
        due("an empty tale", Check.inn("IGa01").chosen(0, true), 0);
        SupperTales y = Check.inn("IGa01Gb01Ga01", "tabkab");
        due("the other a, or none, if it took b", y.chosen(0, false), 1 + 2 + 4);
        due("fined for want of an other, it has no coin to give, but power", Check.inn("IGa11Gb00", "kacgabkab").chosen(0, true), 2);
        due("with a coin more it gives it", Check.inn("IGa21Gb00", "kacgabkab").chosen(0, false), 0);
        SupperTales z = Check.inn("IGa03Gb03Gc03", "kbc");
        z.tell(0);
        Check.tale(z, 0, "kab");
        due("who was dead is dead by all", z.chosen(0, true), 2 + 4);
        due("nothing changes", z.count(3), 3);
    }

    private void round() {
        due("an empty tale", Check.inn("IGa01").round(0), 1);
        due("no guests", Check.inn("I", "kab").round(0), 1);
        due("a killing once, then fines", Check.inn("IGa03Gb03Gc00", "kabkba").round(0), NONE);
        due("names go round by two", Check.inn("IGa01Gb01Ga00Gb00", "tabtba").round(0), 2);
        due("a gift there and back", Check.inn("IGa11Gb01", "gabgba").round(0), 1);
        due("coins run out, then fines", Check.inn("IGa31Gb00", "gab").round(0), NONE);
        due("killed on the first night, then nothing", Check.inn("IGa03Gb03Gc03", "kabtac").round(0), 102);
        SupperTales long60 = Check.inn("IGc71Ga83Gb91Gc83Gc91", "gcbwddtcbtbbgbckdatbctba", "gacgdcwdagcbgdd");
        nightsOf(long60, 1, 5);
        due("60 nights", long60.round(0) % 100, 60);
        SupperTales long61 = Check.inn("IGc91Gb92Gd91Gc92Gd91", "taagdbtdctcctcdtcb", "gddgbdgcb");
        nightsOf(long61, 1, 60);
        due("61 nights", long61.round(0), NONE);
        nightsOf(long61, 0, 1);
        due("one less", long61.round(0) % 100, 60);
        due("round(3)", new SupperTales().round(3), UNKNOWN);
        due("round(-1)", new SupperTales().round(-1), UNKNOWN);
        SupperTales x = Check.inn("IGa11Gb01", "gab");
        x.round(0);
        due("nothing changes", x.count(2) * 1000 + x.guest(0, 1), 101);
    }

    private static void nightsOf(SupperTales x, int tale, int nights) {
        for (int i = 0; i < nights; i++) {
            x.tell(tale);
        }
    }

    private void kindsAre(String inn, String tale, int want) {
        due("kinds of " + tale + " in " + inn, Check.inn(inn, tale).kinds(0), want);
    }

    private void kinds() {
        kindsAre("IGa03Gb03", "", 1 + 4);
        kindsAre("IGa03Gb03", "kcd", 1 + 4);
        kindsAre("IGa03Gb03", "kca", 4);
        kindsAre("IGa03Gb03", "kac", 16);
        kindsAre("IGa03Gb03", "kcdk", 1 + 2 + 4);
        kindsAre("IGa03Gb03", "kcdka", 1 + 2 + 4);
        kindsAre("IGa03Gb03", "kcdx", 1 + 4);
        kindsAre("IGa03Gb03", "kab", 8);
        kindsAre("IGa03Gb03", "kabgabka", 2 + 8 + 16);
        kindsAre("IGa03Gb03", "wab", 0);
        kindsAre("IGa13Gb03", "gab", 0);
        kindsAre("IGa13Gb03", "gabgba", 4);
        kindsAre("IGa13Ga03", "taa", 4);
        kindsAre("IGa13Gb03", "tab", 0);
        due("kinds(3)", new SupperTales().kinds(3), UNKNOWN);
        due("kinds(-1)", new SupperTales().kinds(-1), UNKNOWN);
        SupperTales x = Check.inn("IGa03Gb03", "kab", "wbb");
        x.tell(0);
        due("a name that the dead bear", x.kinds(1), 1 + 4);
        due("who was dead does not die by it", x.kinds(0), 16);
    }

    private void odds() {
        SupperTales x = new SupperTales();
        due("odds(0, 10, 0)", x.odds(0, 10, 0), 10);
        due("odds(3, 3, 4)", x.odds(3, 3, 4), 0);
        due("11 together", x.odds(3, 4, 4), OUTSIDE);
        due("9 together", x.odds(3, 3, 3), OUTSIDE);
        due("-1", x.odds(-1, 10, 1), OUTSIDE);
        due("11", x.odds(11, 0, -1), OUTSIDE);
        due("-1, the last", x.odds(1, 10, -1), OUTSIDE);
        due("wrapping", x.odds(HIGHEST, HIGHEST, 12), OUTSIDE);
        due("refused: as it was", x.odds(10, 0, 0), 3);
    }

    private void mean() {
        SupperTales x = Check.inn("IGa23Gb03", "gab", "kba");
        due("gives a coin: 10 times 21", x.mean(0, 0), 1210);
        due("by another name nothing is done, b is not asked", x.mean(0, 2), 1220);
        due("b gets it", x.mean(1, 1), 1210);
        due("as a it is the other's own", x.mean(1, 0), 1200);
        x.odds(5, 3, 2);
        due("5 times 21, 3 times 0, 2 times 22", x.mean(0, 0), 1149);
        due("3 times 20 for b alone: fined of its own", x.mean(1, 2), 1200);
        due("mean(2, 4)", x.mean(2, 4), UNKNOWN);
        due("mean(-1, 0)", x.mean(-1, 0), UNKNOWN);
        due("mean(0, 4)", x.mean(0, 4), OUTSIDE);
        due("mean(0, -1)", x.mean(0, -1), OUTSIDE);
        due("nothing changes", x.guest(0, 0) * 100 + x.count(6), 0);
        x.tell(1);
        due("mean(0, 0): dead", x.mean(0, 0), STATE);
        due("mean(0, 4): dead, no name", x.mean(0, 4), OUTSIDE);
    }

    private void toGive() {
        SupperTales x = Check.inn("IGa23Gb03Gc93", "kcagcb");
        due("a is killed: b gets the coin", x.toGive(0), 1);
        due("b is fine: of like ones the least", x.toGive(1), 1);
        due("c as d does nothing", x.toGive(2), 0);
        due("toGive(3)", x.toGive(3), UNKNOWN);
        due("toGive(-1)", x.toGive(-1), UNKNOWN);
        x.tell(0);
        due("toGive(0): dead", x.toGive(0), STATE);
        due("all alike", Check.inn("IGd03").toGive(0), 0);
    }

    private void rests() {
        SupperTales x = Check.inn("IGa03Gb03Gc03", "");
        due("all alike: every pair", x.rests(0, 1, 0), 16);
        due("the first one", x.rests(0, 1, 1), 0);
        due("rests(0, 3, 2)", x.rests(0, 3, 2), UNKNOWN);
        due("rests(-1, 0, 0)", x.rests(-1, 0, 0), UNKNOWN);
        due("rests(0, -1, 0)", x.rests(0, -1, 0), UNKNOWN);
        due("rests(3, 3, 0)", x.rests(3, 3, 0), UNKNOWN);
        due("rests(1, 1, 0)", x.rests(1, 1, 0), OUTSIDE);
        due("rests(0, 1, 2)", x.rests(0, 1, 2), OUTSIDE);
        due("rests(0, 1, -1)", x.rests(0, 1, -1), OUTSIDE);
        Check.tale(x, 0, "kca");
        due("an a dies, a c is fined: b and d", x.rests(0, 1, 0), 4);
        due("the first one", x.rests(0, 1, 1), 11);
        SupperTales y = Check.inn("IGd03Gd03Gc93", "gca");
        due("the first a gets a coin; the other is no c", y.rests(0, 1, 0), 3);
        due("the first one", y.rests(0, 1, 1), 0);
        due("the other way about", y.rests(1, 0, 0), 3);
        Check.tale(y, 0, "kcagcb");
        due("the first b gets a coin, the other is no a, no c", y.rests(1, 0, 1), 11);
        x.tell(0);
        due("one is dead", x.rests(0, 1, 0), STATE);
        due("one is dead", x.rests(1, 0, 1), STATE);
        due("both are one, dead", x.rests(0, 0, 1), OUTSIDE);
        due("one is dead, what", x.rests(0, 1, 7), OUTSIDE);
    }

    private void see() {
        SupperTales x = Check.inn("IGa03Gb03");
        due("see(2)", x.see(2, true), UNKNOWN);
        due("see(-1)", x.see(-1, false), UNKNOWN);
        for (int i = 1; i <= 6; i++) {
            due("see, the " + i + "th", x.see(i % 2, i % 3 == 0), i);
        }
        due("see, the 7th", x.see(0, true), FULL);
        due("see(2) when full", x.see(2, true), UNKNOWN);
        due("count(7)", x.count(7), 6);
    }

    private void seeCoins() {
        SupperTales x = Check.inn("IGa03Gb03");
        due("seeCoins(2, 51)", x.seeCoins(2, 51), UNKNOWN);
        due("seeCoins(-1, 0)", x.seeCoins(-1, 0), UNKNOWN);
        due("seeCoins(0, 51)", x.seeCoins(0, 51), OUTSIDE);
        due("seeCoins(0, -51)", x.seeCoins(0, -51), OUTSIDE);
        due("seeCoins(0, 50)", x.seeCoins(0, 50), 1);
        due("seeCoins(0, -50)", x.seeCoins(0, -50), 2);
        for (int i = 3; i <= 6; i++) {
            due("seeCoins, the " + i + "th", x.seeCoins(1, 0), i);
        }
        due("seeCoins, the 7th", x.seeCoins(1, 0), FULL);
        due("seeCoins(1, 51) when full", x.seeCoins(1, 51), OUTSIDE);
        due("see when full", x.see(1, true), FULL);
    }

    private void unsee() {
        SupperTales x = Check.inn("IGa03Gb03");
        due("unsee()", x.unsee(), 0);
        x.see(0, true);
        x.seeCoins(0, 7);
        due("which()", x.which(), 0);
        due("unsee()", x.unsee(), 2);
        due("count(7)", x.count(7), 0);
        due("which()", x.which(), 7);
    }

    private void which() {
        SupperTales x = Check.inn("IGa23Gb03", "gab", "kab", "gabkab");
        due("nothing seen", x.which(), 7);
        x.see(0, false);
        due("0 is alive", x.which(), 7);
        x.see(1, true);
        due("1 is dead", x.which(), 2 + 4);
        x.seeCoins(1, 1);
        due("1 has a coin, though dead", x.which(), 4);
        x.seeCoins(0, 2);
        due("and 0 gave none", x.which(), 0);
        due("nothing changes", x.count(3) * 10 + x.count(2), 30);
        x.unsee();
        x.see(1, true);
        x.see(0, false);
        Check.text(x, "IGa23");
        x.inn();
        due("of guests that there are not any more nothing is looked at", x.which(), 7);
        due("but it is there", x.count(7), 2);
        Check.text(x, "IGa23Gb03");
        x.inn();
        due("and is looked at again", x.which(), 6);
    }

    private void fraction(SupperTales x, int tale, int above, int below) {
        due("likely(" + tale + ", true)", x.likely(tale, true), above);
        due("likely(" + tale + ", false)", x.likely(tale, false), below);
    }

    private void likely() {
        SupperTales x = Check.inn("IGa23Gb03", "gab", "kab", "gabkab");
        fraction(x, 0, 1, 1);
        fraction(x, 1, 0, 1);
        x.odds(5, 3, 2);
        fraction(x, 0, 1, 2);
        fraction(x, 1, 3, 10);
        fraction(x, 2, 1, 5);
        x.see(1, true);
        fraction(x, 0, 0, 1);
        fraction(x, 1, 3, 5);
        fraction(x, 2, 2, 5);
        x.odds(4, 2, 4);
        fraction(x, 1, 1, 3);
        x.odds(10, 0, 0);
        due("what is seen has no odds", x.likely(1, true), STATE);
        due("what is seen has no odds", x.likely(1, false), STATE);
        x.odds(9, 1, 0);
        fraction(x, 1, 1, 1);
        fraction(x, 2, 0, 1);
        fraction(x, 3, UNKNOWN, UNKNOWN);
        fraction(x, -1, UNKNOWN, UNKNOWN);
    }

    private void seed() {
        SupperTales x = new SupperTales();
        due("seed(lowest)", x.seed(Long.MIN_VALUE), 0);
        due("seed(highest)", x.seed(Long.MAX_VALUE), Long.MIN_VALUE);
        due("seed(0)", x.seed(0), Long.MAX_VALUE);
        x.nights(1);
        due("behind a night", x.seed(0), 1442695040888963407L);
    }

    private void nights() {
        SupperTales x = Check.inn("IGa03Gb03Gc03", "kab", "kbc", "kca");
        due("nights(0)", x.nights(0), OUTSIDE);
        due("nights(41)", x.nights(41), OUTSIDE);
        due("nights(lowest)", x.nights(LOWEST), OUTSIDE);
        due("refused: the seed stays", x.seed(0), 0);
        due("nights(1) by tale 0", x.nights(1), 1 + 4);
        due("nothing changes", x.count(3) * 100 + x.count(2) * 10 + x.count(6), 700);
        // 1442695040888963407 >>> 33 = 167953217, and 7 is left of it by 10
        x.seed(0);
        x.odds(7, 3, 0);
        due("7 is not less than 7", x.nights(1), 1 + 2);
        x.seed(0);
        x.odds(8, 2, 0);
        due("7 is less than 8", x.nights(1), 1 + 4);
        x.seed(0);
        x.odds(3, 5, 2);
        due("7 is less than 3 and 5", x.nights(1), 1 + 2);
        x.seed(0);
        x.odds(3, 4, 3);
        due("7 is not less than 3 and 4", x.nights(1), 2 + 4);
        x.odds(10, 0, 0);
        due("nights(40)", x.nights(40), 1 + 4);
        x.odds(0, 0, 10);
        due("nights(2)", x.nights(2), 2 + 4);
    }

    private void keep() {
        SupperTales x = Check.inn("IGa03Gb03Gc03", "kab");
        due("keep(2)", x.keep(2), UNKNOWN);
        due("keep(-1)", x.keep(-1), UNKNOWN);
        due("keep(0)", x.keep(0), 3);
        x.tell(0);
        due("keep(1)", x.keep(1), 2);
        due("acts stay", x.count(6), 1);
        due("keep(0) anew", x.keep(0), 2);
        due("again(0)", x.again(0), 2);
    }

    private void again() {
        SupperTales x = Check.inn("IGa53Gb03Gc03", "kab", "gacwac");
        due("again(2)", x.again(2), UNKNOWN);
        due("again(-1)", x.again(-1), UNKNOWN);
        due("again(0)", x.again(0), STATE);
        x.keep(0);
        due("again(1)", x.again(1), STATE);
        x.tell(1);
        x.keep(1);
        x.tell(0);
        x.give(2, 3);
        due("again(0)", x.again(0), 3);
        guestIs(x, 0, 0, 5, 3, 1, NONE);
        guestIs(x, 2, 2, 0, 3, 1, NONE);
        due("nights", x.count(2), 0);
        due("acts", x.count(6), 0);
        due("undo", x.undo(), STATE);
        due("again(1)", x.again(1), 3);
        guestIs(x, 0, 0, 4, 3, 1, 2);
        due("nights", x.count(2), 1);
        x.tell(0);
        due("it is kept still", x.again(1), 3);
        due("tales stay", x.count(9), 9);
    }

    private void count() {
        SupperTales x = Check.inn("IGa53Gb03Gc03Gb00", "kabwaca", "gab");
        x.tell(0);
        x.tell(1);
        x.tell(2);
        x.undo();
        x.see(0, true);
        long[] want = {17, 4, 2, 1 + 4 + 8, 1 + 4, 1005, 2, 1, 1 + 2 + 4, 10};
        for (int what = 0; what < want.length; what++) {
            due("count(" + what + ")", x.count(what), want[what]);
        }
        due("count(10)", x.count(10), OUTSIDE);
        due("count(-1)", x.count(-1), OUTSIDE);
    }
}
