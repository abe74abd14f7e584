/** What the tests share: counting answers that are not due, and making inns and tales from texts. */
final class Check {
    private int wrong = 0;
    private int asked = 0;

    void due(String call, long got, long want) {
        asked++;
        if (got != want) {
            wrong++;
            if (wrong <= 40) {
                System.out.println(call + " answered " + got + ", due is " + want);
            }
        }
    }

    /** Ends the program with 1 if an answer was wrong. */
    void end(String name) {
        System.out.println(name + ": " + asked + " answers, " + wrong + " not as due");
        if (wrong != 0) {
            System.exit(1);
        }
    }

    static void text(SupperTales x, String letters) {
        x.wipe();
        for (int i = 0; i < letters.length(); i++) {
            x.write(letters.charAt(i));
        }
    }

    static void tale(SupperTales x, int tale, String letters) {
        x.blot(tale);
        for (int i = 0; i < letters.length(); i++) {
            x.quill(tale, letters.charAt(i));
        }
    }

    static SupperTales inn(String letters, String... tales) {
        SupperTales x = new SupperTales();
        text(x, letters);
        if (x.inn() < 0) {
            throw new IllegalStateException("no inn: " + letters);
        }
        for (int t = 0; t < tales.length; t++) {
            tale(x, t, tales[t]);
        }
        return x;
    }
}
