/** The edges of the telling and of the acts: Terms 1 from the telling on, promises 11 to 13. */
public final class ActEdgesTest {
    private static final int UNKNOWN = Check.UNKNOWN, OUTSIDE = Check.OUTSIDE, STATE = Check.STATE;
    private static final int NONE = Check.NONE, LOWEST = Check.LOWEST, HIGHEST = Check.HIGHEST;

    private final Check check = new Check();

    public static void main(String[] args) {
        ActEdgesTest test = new ActEdgesTest();
        test.wholeDeeds();
        test.doer();
        test.doerWithoutPower();
        test.other();
        test.kills();
        test.weds();
        test.gives();
        test.takes();
        test.power();
        test.fines();
        test.rowOfActs();
        test.tell();
        test.give();
        test.undo();
        test.manyCalls();
        test.check.end("ActEdgesTest");
    }

    private void due(String call, long got, long want) {
        check.due(call, got, want);
    }

    /** Tells one tale in a new inn: which deeds are done, and how the guests are at dawn. */
    private void told(String inn, String tale, int done, String guests) {
        SupperTales x = Check.inn(inn, tale);
        due(tale + " told in " + inn, x.tell(0), done);
        check.due("guests behind " + tale + " told in " + inn, Check.guests(x), guests);
    }

    private void wholeDeeds() {
        check.says("DEED by DEED, as many as are whole ahead of its FAULT.");
        told("IGa93Gb03", "", 0, "0:a9; 1:b0;");
        told("IGa93Gb03", "g", 0, "0:a9; 1:b0;");
        told("IGa93Gb03", "ga", 0, "0:a9; 1:b0;");
        told("IGa93Gb03", "gab", 1, "0:a8; 1:b1;");
        told("IGa93Gb03", "gabg", 1, "0:a8; 1:b1;");
        told("IGa93Gb03", "gabga", 1, "0:a8; 1:b1;");
        told("IGa93Gb03", "gabgab", 3, "0:a7; 1:b2;");
        told("IGa93Gb03", "Xabgab", 0, "0:a9; 1:b0;");
        told("IGa93Gb03", "gXbgab", 0, "0:a9; 1:b0;");
        told("IGa93Gb03", "gaXgab", 0, "0:a9; 1:b0;");
        told("IGa93Gb03", "gabXabgab", 1, "0:a8; 1:b1;");
        told("IGa93Gb03", "gabgaXgab", 1, "0:a8; 1:b1;");
        told("IGa93Gb03", "gabgabXgab", 3, "0:a7; 1:b2;");
        told("IGa93Ga93Ga93Gb00", "gabgabgabgabgabgabgabgab", 255, "0:a6; 1:a6; 2:a7; 3:b8;");
        told("IGa93Ga93Ga93Gb00", "gabgabgabgabgabgabgabgae", 127, "0:a6; 1:a6; 2:a8; 3:b7;");
    }

    private void doer() {
        check.says("The DOER is the least GUEST alive that bears the first NAME and has POWER left (each has its POWER anew each NIGHT)");
        told("IGa91Ga92Gb00", "gabgabgab", 7, "0:a8; 1:a7; 2:b3;");
        told("IGa90Ga91Gb00", "gab", 1, "0:a9; 1:a8; 2:b1;");
        told("IGb90Ga91Gb00", "gab", 1, "0:b10; 1:a8; 2:b0;");
        SupperTales x = Check.inn("IGa91Gb00", "gabgab");
        due("once", x.tell(0), 1);
        due("and once more by the next night", x.tell(0), 1);
        check.due("guests", Check.guests(x), "0:a5; 1:b2;");
        SupperTales y = Check.inn("IGa91Ga91Gb01", "kbagab");
        due("the dead is no doer", y.tell(0), 3);
        check.due("guests", Check.guests(y), "0:a9 dead; 1:a8; 2:b1;");
    }

    private void doerWithoutPower() {
        check.says("if those alive that bear it have none left, the least of them is FINED");
        told("IGa90Ga90Gb00", "gab", 0, "0:a8; 1:a9; 2:b0;");
        told("IGa91Ga91Gb00", "gabgabgab", 3, "0:a7; 1:a8; 2:b2;");
        told("IGa90Ga90Gb01", "kbagab", 1, "0:a9 dead; 1:a8; 2:b0;");
        told("IGa00", "kcd", 0, "0:a0;");
        told("IGa00", "kad", 0, "0:a-1;");
        check.says("if there are none, nothing comes of it.");
        told("IGa03Gb03", "kcacaa", 0, "0:a0; 1:b0;");
        told("IGa03Gb01", "kbakab", 1, "0:a0 dead; 1:b0;");
        told("I", "kabwabgabtab", 0, "");
    }

    private void other() {
        check.says("The OTHER is the least GUEST alive, but the DOER, that bears the second NAME; if there is none, the DOER is FINED.");
        told("IGa02Ga02Ga02", "kaa", 1, "0:a0; 1:a0 dead; 2:a0;");
        told("IGa02Ga02Ga02", "kaakaa", 3, "0:a0; 1:a0 dead; 2:a0 dead;");
        told("IGa03Ga02Ga02", "kaakaakaa", 3, "0:a-1; 1:a0 dead; 2:a0 dead;");
        told("IGa00Ga01", "kaa", 1, "0:a0 dead; 1:a0;");
        told("IGa03", "kaa", 0, "0:a-1;");
        told("IGa03", "kab", 0, "0:a-1;");
        told("IGa13Gb00", "gab", 1, "0:a0; 1:b1;");
        told("IGa23Gb00", "kabgab", 1, "0:a1; 1:b0 dead;");
    }

    private void kills() {
        check.says("the OTHER is dead (who was wed to it, or it to, is unwed).");
        told("IGa03Gb03Gc03", "wabkca", 3, "0:a0 dead; 1:b0; 2:c0;");
        told("IGa03Gb03Gc03", "wabkcb", 3, "0:a0; 1:b0 dead; 2:c0;");
        told("IGa03Gb03Gc03", "wabkab", 3, "0:a0; 1:b0 dead; 2:c0;");
        told("IGa03Gb03Gc03", "wabkba", 3, "0:a0 dead; 1:b0; 2:c0;");
        told("IGa03Gb03Gc03", "wabkcawbc", 7, "0:a0 dead; 1:b0 wed to 2; 2:c0 wed to 1;");
        told("IGa03Gb03Gc03Gd03", "wabwcdkac", 7, "0:a0 wed to 1; 1:b0 wed to 0; 2:c0 dead; 3:d0;");
        SupperTales x = Check.inn("IGa03Gb03Gc03", "wabkca");
        x.tell(0);
        due("who is wed", x.count(4), 0);
        due("the dead is wed to", x.guest(0, 4), NONE);
    }

    private void weds() {
        check.says("both are wed to each other, if both are unwed; else the DOER is FINED.");
        told("IGa03Gb03Gc03", "wab", 1, "0:a0 wed to 1; 1:b0 wed to 0; 2:c0;");
        told("IGa03Gb03Gc03", "wabwab", 1, "0:a-1 wed to 1; 1:b0 wed to 0; 2:c0;");
        told("IGa03Gb03Gc03", "wabwba", 1, "0:a0 wed to 1; 1:b-1 wed to 0; 2:c0;");
        told("IGa03Gb03Gc03", "wabwac", 1, "0:a-1 wed to 1; 1:b0 wed to 0; 2:c0;");
        told("IGa03Gb03Gc03", "wabwca", 1, "0:a0 wed to 1; 1:b0 wed to 0; 2:c-1;");
        told("IGa03Gb03Gc03Gd03", "wabwcd", 3, "0:a0 wed to 1; 1:b0 wed to 0; 2:c0 wed to 3; 3:d0 wed to 2;");
        told("IGa03Gb03Gc03Gd03", "wabwcdwad", 3, "0:a-1 wed to 1; 1:b0 wed to 0; 2:c0 wed to 3; 3:d0 wed to 2;");
        told("IGa03", "waa", 0, "0:a-1;");
    }

    private void gives() {
        check.says("the DOER gives the OTHER a COIN, if it has one; else it is FINED.");
        told("IGa23Gb00", "gab", 1, "0:a1; 1:b1;");
        told("IGa13Gb00", "gab", 1, "0:a0; 1:b1;");
        told("IGa03Gb00", "gab", 0, "0:a-1; 1:b0;");
        told("IGa03Gb00", "gabgab", 0, "0:a-2; 1:b0;");
        told("IGa13Gb00", "gabgab", 1, "0:a-1; 1:b1;");
        told("IGa03Gb11", "gabgba", 2, "0:a0; 1:b0;");
        told("IGa93Gb93", "gab", 1, "0:a8; 1:b10;");
    }

    private void takes() {
        check.says("the DOER bears the second NAME from now on.");
        told("IGa03Gb00", "tab", 1, "0:b0; 1:b0;");
        told("IGa03Gb00", "tac", 0, "0:a-1; 1:b0;");
        told("IGa03Gb00", "taa", 0, "0:a-1; 1:b0;");
        told("IGa01Ga00", "taataa", 1, "0:a-1; 1:a0;");
        told("IGa03Gb00", "kabtab", 1, "0:a-1; 1:b0 dead;");
        told("IGa12Gb00", "tabgbb", 3, "0:b0; 1:b1;");
        told("IGa12Gb00", "gbbtab", 2, "0:b1; 1:b-1;");
        told("IGa03Gb00", "tabtab", 1, "0:b0; 1:b0;");
    }

    private void power() {
        check.says("A DEED that is so DONE takes 1 of the DOER's POWER.");
        told("IGa90Gb00", "gabgabgabgab", 0, "0:a5; 1:b0;");
        told("IGa91Gb00", "gabgabgabgab", 1, "0:a5; 1:b1;");
        told("IGa92Gb00", "gabgabgabgab", 3, "0:a5; 1:b2;");
        told("IGa93Gb00", "gabgabgabgab", 7, "0:a5; 1:b3;");
        told("IGa01Gb00Gc00", "kabkac", 1, "0:a-1; 1:b0 dead; 2:c0;");
        told("IGa01Gb00Gc00", "wabkac", 1, "0:a-1 wed to 1; 1:b0 wed to 0; 2:c0;");
        told("IGa11Gb00Gc00", "gabkac", 1, "0:a-1; 1:b1; 2:c0;");
        told("IGa01Gb00Gc00", "tabkbc", 1, "0:b-1; 1:b0; 2:c0;");
        told("IGa02Gb00Gc00", "tabkbc", 3, "0:b0; 1:b0; 2:c0 dead;");
    }

    private void fines() {
        check.says("FINED: it has 1 COIN less (it may have less than none); that takes no POWER.");
        told("IGa21Gb00", "kackac", 0, "0:a0; 1:b0;");
        told("IGa21Gb00", "kackackac", 0, "0:a-1; 1:b0;");
        told("IGa01Gb00", "gabgabgabgabgabgabgabkab", 128, "0:a-7; 1:b0 dead;");
        told("IGa02Gb00", "wabwabwabkab", 9, "0:a-2; 1:b0 dead;");
        SupperTales x = Check.inn("IGa00", "kaakaakaakaakaakaakaakaa");
        Check.tellOften(x, 0, 13);
        due("coins behind 13 nights of 8 fines", x.guest(0, 1), 100 - 104);
        due("and of all", x.count(5), 1000 - 104);
    }

    private void rowOfActs() {
        check.says("ACTS (TOLD, NAMES given otherwise) are a row (12 at most; of more the first one is forgotten); the last one can be undone.");
        for (int acts = 11; acts <= 14; acts++) {
            SupperTales x = Check.inn("IGa03");
            for (int i = 0; i < acts; i++) {
                due("acts", x.count(6), Math.min(i, 12));
                x.tell(0);
            }
            int held = Math.min(acts, 12);
            due("acts in the row of " + acts, x.count(6), held);
            for (int left = held - 1; left >= 0; left--) {
                due("undo() of " + acts, x.undo(), left);
                due("nights left of " + acts, x.count(2), acts - held + left);
            }
            due("undo() beyond " + acts, x.undo(), STATE);
            due("refused: nights", x.count(2), acts - held);
        }
        SupperTales y = Check.inn("IGa93Gb03", "gab");
        for (int i = 0; i < 12; i++) {
            due("a name and a night in turn", i % 2 == 0 ? y.give(1, 2 - i / 2 % 2) : y.tell(0), i % 2 == 0 ? 1 + i / 2 % 2 : i / 2 % 2);
        }
        check.due("guests", Check.guests(y), "0:a3; 1:b3;");
        due("the 13th: a name", y.give(1, 3), 1);
        due("in the row", y.count(6), 12);
        for (int i = 0; i < 12; i++) {
            y.undo();
        }
        check.due("the first one, a name, is forgotten", Check.guests(y), "0:a9; 1:c0;");
    }

    private void tell() {
        check.says("A TALE is TOLD: which DEEDS are DONE, as bits by place. UNKNOWN.");
        SupperTales x = Check.inn("IGa93Gb03", "gabkcagab", "gba", "kab");
        due("tell(0)", x.tell(0), 1 + 4);
        due("tell(1)", x.tell(1), 1);
        due("nights", x.count(2), 2);
        for (int tale : new int[] {-1, 3, LOWEST, HIGHEST}) {
            due("tell(" + tale + ")", x.tell(tale), UNKNOWN);
        }
        due("refused: nights", x.count(2), 2);
        due("refused: acts", x.count(6), 2);
        check.due("refused: guests", Check.guests(x), "0:a8; 1:b1;");
        due("tell(2)", x.tell(2), 1);
        due("tell(2), nothing is done", x.tell(2), 0);
        due("an act each", x.count(6), 4);
        due("tales stay", x.count(9), 15);
    }

    private void give() {
        check.says("A GUEST gives another NAME: what it was.");
        SupperTales x = Check.inn("IGa03Gb03Gc00", "kab");
        due("give(0, 3)", x.give(0, 3), 0);
        due("give(0, 0)", x.give(0, 0), 3);
        due("a name that another one bears", x.give(2, 0), 2);
        due("acts", x.count(6), 3);
        due("it is no night", x.count(2), 0);
        check.says("UNKNOWN; OUTSIDE: name; STATE: it is dead, or bears it.");
        x.tell(0);
        for (int guest : new int[] {-1, 3, LOWEST, HIGHEST}) {
            due("give(" + guest + ", 0)", x.give(guest, 0), UNKNOWN);
            due("give(" + guest + ", 4): UNKNOWN is named first", x.give(guest, 4), UNKNOWN);
        }
        for (int name : new int[] {-1, 4, LOWEST, HIGHEST}) {
            due("give(0, " + name + ")", x.give(0, name), OUTSIDE);
            due("give(1, " + name + "), dead: OUTSIDE is named first", x.give(1, name), OUTSIDE);
        }
        for (int name = 0; name <= 3; name++) {
            due("give(1, " + name + "): it is dead", x.give(1, name), STATE);
        }
        due("give(0, 0): it bears it", x.give(0, 0), STATE);
        due("give(2, 0): it bears it", x.give(2, 0), STATE);
        due("refused: acts", x.count(6), 4);
        check.due("refused: guests", Check.guests(x), "0:a0; 1:b0 dead; 2:a0;");
        due("give(2, 3)", x.give(2, 3), 0);
    }

    private void undo() {
        check.says("The last ACT is undone: how many are left. STATE: there is none.");
        SupperTales x = Check.inn("IGa33Gb03Gc03", "wabgabtac", "kabkcb");
        due("undo() of none", x.undo(), STATE);
        x.tell(0);
        x.give(2, 3);
        due("c, that was a, kills b", x.tell(1), 2);
        check.due("guests", Check.guests(x), "0:c2; 1:b1 dead; 2:d0;");
        due("undo() of a killing", x.undo(), 2);
        check.due("alive and wed again", Check.guests(x), "0:c2 wed to 1; 1:b1 wed to 0; 2:d0;");
        due("nights", x.count(2), 1);
        due("undo() of a name", x.undo(), 1);
        check.due("its name again", Check.guests(x), "0:c2 wed to 1; 1:b1 wed to 0; 2:c0;");
        due("nights, a name is none", x.count(2), 1);
        due("undo() of the first night", x.undo(), 0);
        check.due("as at first", Check.guests(x), "0:a3; 1:b0; 2:c0;");
        due("nights", x.count(2), 0);
        due("undo() of none", x.undo(), STATE);
        check.due("refused: guests", Check.guests(x), "0:a3; 1:b0; 2:c0;");
        due("tales stay", x.count(9), 15);
    }

    private void manyCalls() {
        check.says("An object is used for at most 512 calls after it has been made");
        SupperTales x = new SupperTales();
        int calls = 0;
        for (char letter : "IGa00".toCharArray()) {
            x.write(letter);
            calls++;
        }
        for (int i = 0; i < 24; i++) {
            x.quill(1, "kaa".charAt(i % 3));
            calls++;
        }
        x.inn();
        calls++;
        int nights = 0;
        for (; calls < 510; calls++) {
            nights++;
            x.tell(1);
        }
        due("the 511th call: coins", x.guest(0, 1), 100 - 8 * nights);
        due("the 512th call: nights", x.count(2), nights);
    }
}
