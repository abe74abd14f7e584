/** What the tests share: counting answers that are not due, and making inns and tales from texts. */
final class Check {
    static final int UNKNOWN = -1, OUTSIDE = -2, STATE = -3, FULL = -4, NONE = -9;
    static final int LOWEST = Integer.MIN_VALUE, HIGHEST = Integer.MAX_VALUE;

    private int wrong = 0;
    private int asked = 0;
    private int sentences = 0;
    private int askedBefore = -1;
    private String sentence = "";

    /** What comes next is asked because of these words of the document; of each sentence something must be asked. */
    void says(String words) {
        closeSentence();
        sentence = words;
        sentences++;
        askedBefore = asked;
    }

    void due(String call, long got, long want) {
        asked++;
        if (got != want) {
            tell(call + " answered " + got + ", due is " + want);
        }
    }

    void due(String call, String got, String want) {
        asked++;
        if (!got.equals(want)) {
            tell(call + " answered\n    " + got + ", due is\n    " + want);
        }
    }

    private void tell(String fault) {
        wrong++;
        if (wrong <= 40) {
            System.out.println(sentence.isEmpty() ? fault : "\"" + sentence + "\": " + fault);
        }
    }

    private void closeSentence() {
        if (askedBefore == asked) {
            tell("nothing was asked");
        }
    }

    /** Ends the program with 1 if an answer was wrong. */
    void end(String name) {
        closeSentence();
        String of = sentences == 0 ? "" : " of " + sentences + " sentences";
        System.out.println(name + ": " + asked + " answers" + of + ", " + wrong + " not as due");
        if (wrong != 0) {
            System.exit(1);
        }
    }

    static void text(SupperTales x, String letters) {
        x.wipe();
        for (int i = 0; i < letters.length(); i++) {
            x.write(letters.charAt(i));
        }
    }

    static void tale(SupperTales x, int tale, String letters) {
        x.blot(tale);
        for (int i = 0; i < letters.length(); i++) {
            x.quill(tale, letters.charAt(i));
        }
    }

    static SupperTales inn(String letters, String... tales) {
        SupperTales x = new SupperTales();
        text(x, letters);
        if (x.inn() < 0) {
            throw new IllegalStateException("no inn: " + letters);
        }
        for (int t = 0; t < tales.length; t++) {
            tale(x, t, tales[t]);
        }
        return x;
    }

    static void tellOften(SupperTales x, int tale, int nights) {
        for (int i = 0; i < nights; i++) {
            x.tell(tale);
        }
    }

    /** Name, coins, death and wedding of each guest, such as "0:a3; 1:b5 dead; 2:c-1 wed to 3;". */
    static String guests(SupperTales x) {
        StringBuilder s = new StringBuilder();
        for (int guest = 0; x.guest(guest, 0) != UNKNOWN; guest++) {
            s.append(guest).append(':').append((char) ('a' + x.guest(guest, 0))).append(x.guest(guest, 1) - 100);
            s.append(x.guest(guest, 3) == 1 ? "" : " dead");
            s.append(x.guest(guest, 4) == NONE ? "" : " wed to " + x.guest(guest, 4)).append("; ");
        }
        return s.toString().trim();
    }
}
