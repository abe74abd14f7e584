import java.util.Random;

/** Runs of calls drawn by fixed seeds, each answer compared with the model's; every object has 512 calls at most. */
public final class AgainstModelTest {
    private static final int RUNS = 400;
    private static final int CALLS = 512;

    private final Check check;
    private final Random random;
    private final SupperTales x = new SupperTales();
    private final Model m = new Model();
    private final int run;
    private int calls;

    private AgainstModelTest(Check check, int run) {
        this.check = check;
        this.run = run;
        this.random = new Random(run);
    }

    public static void main(String[] args) {
        Check check = new Check();
        for (int run = 0; run < RUNS; run++) {
            new AgainstModelTest(check, run).go();
        }
        check.end("AgainstModelTest");
    }

    private void go() {
        while (calls < CALLS - 60) {
            int pick = random.nextInt(100);
            if (calls == 0 || pick < 2) {
                newInn();
            } else if (pick < 8) {
                newTale();
            } else {
                call(random.nextInt(34));
            }
            if (random.nextInt(25) == 0) {
                lookAtAll();
            }
        }
    }

    private void due(String call, long got, long want) {
        calls++;
        check.due("run " + run + ", call " + calls + ": " + call, got, want);
    }

    /** Mostly as told, now and then not. */
    private int number(int from, int to) {
        if (random.nextInt(16) == 0) {
            int[] odd = {from - 1, to + 1, -1, Integer.MIN_VALUE, Integer.MAX_VALUE, to + 1 + random.nextInt(40)};
            return odd[random.nextInt(odd.length)];
        }
        return from + random.nextInt(to - from + 1);
    }

    private int aGuest() {
        int guests = m.world.guests.size();
        return guests == 0 ? number(0, 4) : number(0, guests - 1);
    }

    private void newInn() {
        due("wipe()", x.wipe(), m.wipe());
        int guests = random.nextInt(4) == 0 ? random.nextInt(6) : 3 + random.nextInt(3);
        int names = 1 + random.nextInt(4);
        StringBuilder s = new StringBuilder("I");
        for (int i = 0; i < guests; i++) {
            s.append('G').append((char) ('a' + random.nextInt(names))).append(random.nextInt(random.nextBoolean() ? 10 : 3))
                    .append(random.nextInt(4));
        }
        spoil(s, "IGabcd0123e49JH");
        for (int i = 0; i < s.length(); i++) {
            int letter = s.charAt(i);
            due("write(" + letter + ")", x.write(letter), m.write(letter));
        }
        due("fault()", x.fault(), m.fault());
        due("inn()", x.inn(), m.inn());
    }

    private void newTale() {
        int tale = random.nextInt(3);
        due("blot(" + tale + ")", x.blot(tale), m.blot(tale));
        int deeds = random.nextInt(random.nextInt(3) == 0 ? 9 : 5);
        int names = 1 + random.nextInt(4);
        String kinds = random.nextInt(3) == 0 ? "wgt" : random.nextInt(3) == 0 ? "gt" : "kwgt";
        StringBuilder s = new StringBuilder();
        for (int i = 0; i < deeds; i++) {
            s.append(kinds.charAt(random.nextInt(kinds.length()))).append((char) ('a' + random.nextInt(names)))
                    .append((char) ('a' + random.nextInt(names)));
        }
        spoil(s, "kwgtabcdex");
        for (int i = 0; i < s.length(); i++) {
            int letter = s.charAt(i);
            due("quill(" + tale + ", " + letter + ")", x.quill(tale, letter), m.quill(tale, letter));
        }
        due("slip(" + tale + ")", x.slip(tale), m.slip(tale));
    }

    private void spoil(StringBuilder s, String letters) {
        if (random.nextInt(6) == 0 && s.length() > 0) {
            s.setCharAt(random.nextInt(s.length()), letters.charAt(random.nextInt(letters.length())));
        }
        if (random.nextInt(6) == 0) {
            int more = 1 + random.nextInt(4);
            for (int i = 0; i < more; i++) {
                s.append(letters.charAt(random.nextInt(letters.length())));
            }
        }
        if (random.nextInt(6) == 0) {
            s.setLength(random.nextInt(s.length() + 1));
        }
    }

    private void lookAtAll() {
        for (int what = 0; what <= 9; what++) {
            due("count(" + what + ")", x.count(what), m.count(what));
        }
        for (int guest = 0; guest < m.world.guests.size(); guest++) {
            for (int what = 0; what <= 4; what++) {
                due("guest(" + guest + ", " + what + ")", x.guest(guest, what), m.guest(guest, what));
            }
        }
        long v = random.nextLong();
        due("seed(" + v + ")", x.seed(v), m.seed(v));
    }

    private void call(int which) {
        int tale = number(0, 2);
        int guest = aGuest();
        boolean flag = random.nextBoolean();
        switch (which) {
            case 0: { int l = number(0, 255); due("write(" + l + ")", x.write(l), m.write(l)); break; }
            case 1: if (random.nextInt(8) == 0) due("wipe()", x.wipe(), m.wipe()); break;
            case 2: due("fault()", x.fault(), m.fault()); break;
            case 3: if (random.nextInt(8) == 0) due("inn()", x.inn(), m.inn()); break;
            case 4: { int l = random.nextBoolean() ? "kwgtabcd".charAt(random.nextInt(8)) : number(0, 255);
                due("quill(" + tale + ", " + l + ")", x.quill(tale, l), m.quill(tale, l)); break; }
            case 5: if (random.nextInt(8) == 0) due("blot(" + tale + ")", x.blot(tale), m.blot(tale)); break;
            case 6: due("slip(" + tale + ")", x.slip(tale), m.slip(tale)); break;
            case 7: { int w = number(0, 4); due("guest(" + guest + ", " + w + ")", x.guest(guest, w), m.guest(guest, w)); break; }
            case 8: { int n = number(0, 3); due("bears(" + n + ")", x.bears(n), m.bears(n)); break; }
            case 9: due("tell(" + tale + ")", x.tell(tale), m.tell(tale)); break;
            case 10: { int n = number(0, 3); due("give(" + guest + ", " + n + ")", x.give(guest, n), m.give(guest, n)); break; }
            case 11: due("undo()", x.undo(), m.undo()); break;
            case 12: { int w = number(0, 3); due("would(" + tale + ", " + w + ")", x.would(tale, w), m.would(tale, w)); break; }
            case 13: due("coins(" + tale + ", " + guest + ")", x.coins(tale, guest), m.coins(tale, guest)); break;
            case 14: case 15: shortest(guest, which == 15); break;
            case 16: due("cut(" + tale + ")", x.cut(tale), m.cut(tale)); break;
            case 17: due("chosen(" + tale + ", " + flag + ")", x.chosen(tale, flag), m.chosen(tale, flag)); break;
            case 18: due("round(" + tale + ")", x.round(tale), m.round(tale)); break;
            case 19: due("kinds(" + tale + ")", x.kinds(tale), m.kinds(tale)); break;
            case 20: odds(); break;
            default: laterCall(which, tale, guest, flag); break;
        }
    }

    private void laterCall(int which, int tale, int guest, boolean flag) {
        switch (which) {
            case 21: { int n = number(0, 3); due("mean(" + guest + ", " + n + ")", x.mean(guest, n), m.mean(guest, n)); break; }
            case 22: due("toGive(" + guest + ")", x.toGive(guest), m.toGive(guest)); break;
            case 23: { int o = aGuest(); int w = number(0, 1);
                due("rests(" + guest + ", " + o + ", " + w + ")", x.rests(guest, o, w), m.rests(guest, o, w)); break; }
            case 24: due("see(" + guest + ", " + flag + ")", x.see(guest, flag), m.see(guest, flag)); break;
            case 25: { int n = random.nextBoolean() && m.world.has(guest) ? m.world.guests.get(guest).coins : number(-50, 50);
                due("seeCoins(" + guest + ", " + n + ")", x.seeCoins(guest, n), m.seeCoins(guest, n)); break; }
            case 26: due("unsee()", x.unsee(), m.unsee()); break;
            case 27: due("which()", x.which(), m.which()); break;
            case 28: due("likely(" + tale + ", " + flag + ")", x.likely(tale, flag), m.likely(tale, flag)); break;
            case 29: { long v = random.nextLong(); due("seed(" + v + ")", x.seed(v), m.seed(v)); break; }
            case 30: { int n = number(1, 40); due("nights(" + n + ")", x.nights(n), m.nights(n)); break; }
            case 31: { int s = number(0, 1); due("keep(" + s + ")", x.keep(s), m.keep(s)); break; }
            case 32: { int s = number(0, 1); due("again(" + s + ")", x.again(s), m.again(s)); break; }
            default: { int w = number(0, 9); due("count(" + w + ")", x.count(w), m.count(w)); break; }
        }
    }

    private void shortest(int guest, boolean at) {
        int end = number(0, 3);
        int v = end == 1 ? aGuest() : end == 2 ? number(0, random.nextBoolean() ? 6 : 20) : number(0, 3);
        if (at) {
            int i = number(0, 2);
            due("shortestAt(" + guest + ", " + end + ", " + v + ", " + i + ")",
                    x.shortestAt(guest, end, v, i), m.shortestAt(guest, end, v, i));
        } else {
            due("shortest(" + guest + ", " + end + ", " + v + ")", x.shortest(guest, end, v), m.shortest(guest, end, v));
        }
    }

    private void odds() {
        int a = random.nextInt(11);
        int b = random.nextInt(11 - a);
        int c = number(10 - a - b, 10 - a - b);
        due("odds(" + a + ", " + b + ", " + c + ")", x.odds(a, b, c), m.odds(a, b, c));
    }
}
