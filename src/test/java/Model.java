import java.util.ArrayDeque;
import java.util.ArrayList;
import java.util.Deque;
import java.util.HashMap;
import java.util.HashSet;
import java.util.LinkedHashMap;
import java.util.List;
import java.util.Map;
import java.util.Set;
import java.util.regex.Matcher;
import java.util.regex.Pattern;

/** The document told a second time, as plainly as the library lets it be, to compare answers with. */
final class Model {
    static final int UNKNOWN = -1, OUTSIDE = -2, STATE = -3, FULL = -4, NONE = -9;
    static final Pattern INN = Pattern.compile("I(?:G[a-d][0-9][0-3]){0,5}", Pattern.DOTALL);
    static final Pattern TALE = Pattern.compile("(?:[kwgt][a-d][a-d])*", Pattern.DOTALL);

    static final class Guest {
        int name;
        int coins;
        int power;
        boolean alive = true;
        Guest wed;

        boolean bears(int n) {
            return alive && name == n;
        }
    }

    static final class World {
        final List<Guest> guests = new ArrayList<>();
        int nights;

        World copy() {
            World w = new World();
            w.nights = nights;
            for (Guest g : guests) {
                Guest h = new Guest();
                h.name = g.name;
                h.coins = g.coins;
                h.power = g.power;
                h.alive = g.alive;
                w.guests.add(h);
            }
            for (int i = 0; i < guests.size(); i++) {
                if (guests.get(i).wed != null) {
                    w.guests.get(i).wed = w.guests.get(guests.indexOf(guests.get(i).wed));
                }
            }
            return w;
        }

        String key() {
            StringBuilder s = new StringBuilder();
            for (Guest g : guests) {
                s.append(g.name).append(',').append(g.coins).append(',').append(g.alive).append(',')
                        .append(g.wed == null ? -9 : guests.indexOf(g.wed)).append(';');
            }
            return s.toString();
        }

        int bits(java.util.function.Predicate<Guest> p) {
            int b = 0;
            for (int i = 0; i < guests.size(); i++) {
                if (p.test(guests.get(i))) {
                    b += 1 << i;
                }
            }
            return b;
        }

        int dead() {
            return bits(g -> !g.alive);
        }

        int sum() {
            return guests.stream().mapToInt(g -> g.coins).sum();
        }

        boolean has(int g) {
            return g >= 0 && g < guests.size();
        }
    }

    /** One night: the world, what each can still do, and what came of it. */
    static final class Night {
        World world;
        Map<Guest, Integer> left = new HashMap<>();
        List<Boolean> done = new ArrayList<>();
        List<Guest> fined = new ArrayList<>();

        Night(World from) {
            world = from.copy();
            for (Guest g : world.guests) {
                left.put(g, g.power);
            }
        }

        Night copy() {
            Night n = new Night(world);
            for (int i = 0; i < world.guests.size(); i++) {
                n.left.put(n.world.guests.get(i), left.get(world.guests.get(i)));
            }
            n.done.addAll(done);
            n.fined.addAll(fined);
            return n;
        }

        String key() {
            StringBuilder s = new StringBuilder(world.key());
            for (Guest g : world.guests) {
                s.append(left.get(g));
            }
            return s.toString();
        }

        List<Guest> doers(String deed) {
            List<Guest> r = new ArrayList<>();
            for (Guest g : world.guests) {
                if (g.bears(deed.charAt(1) - 'a') && left.get(g) > 0) {
                    r.add(g);
                }
            }
            return r;
        }

        List<Guest> others(String deed, Guest doer) {
            List<Guest> r = new ArrayList<>();
            for (Guest g : world.guests) {
                if (g != doer && g.bears(deed.charAt(2) - 'a')) {
                    r.add(g);
                }
            }
            return r;
        }

        void fine(Guest g) {
            g.coins -= 1;
            fined.add(g);
            done.add(false);
        }

        void noDoer(String deed) {
            for (Guest g : world.guests) {
                if (g.bears(deed.charAt(1) - 'a')) {
                    fine(g);
                    return;
                }
            }
            done.add(false);
        }

        void act(String deed, Guest doer, Guest other) {
            char kind = deed.charAt(0);
            if (kind == 'w' && (doer.wed != null || other.wed != null) || kind == 'g' && doer.coins < 1) {
                fine(doer);
                return;
            }
            if (kind == 'k') {
                other.alive = false;
                for (Guest g : world.guests) {
                    if (g.wed == other) {
                        g.wed = null;
                    }
                }
                other.wed = null;
            } else if (kind == 'w') {
                doer.wed = other;
                other.wed = doer;
            } else if (kind == 'g') {
                doer.coins--;
                other.coins++;
            } else {
                doer.name = deed.charAt(2) - 'a';
            }
            left.merge(doer, -1, Integer::sum);
            done.add(true);
        }

        Night hear(List<String> deeds) {
            for (String deed : deeds) {
                List<Guest> doers = doers(deed);
                if (doers.isEmpty()) {
                    noDoer(deed);
                    continue;
                }
                List<Guest> others = others(deed, doers.get(0));
                if (others.isEmpty()) {
                    fine(doers.get(0));
                } else {
                    act(deed, doers.get(0), others.get(0));
                }
            }
            return this;
        }

        int doneBits() {
            int b = 0;
            for (int i = 0; i < done.size(); i++) {
                b |= done.get(i) ? 1 << i : 0;
            }
            return b;
        }
    }

    record Seen(int guest, Boolean dead, int coins) { }

    final StringBuilder text = new StringBuilder();
    final StringBuilder[] tales = {new StringBuilder(), new StringBuilder(), new StringBuilder()};
    World world = new World();
    Deque<World> acts = new ArrayDeque<>();
    Map<Integer, World> slots = new LinkedHashMap<>();
    List<Seen> seen = new ArrayList<>();
    int[] odds = {10, 0, 0};
    long seed;

    static int faultOf(Pattern whole, String s) {
        for (int n = 1; n <= s.length(); n++) {
            Matcher m = whole.matcher(s.substring(0, n));
            if (!m.matches() && !m.hitEnd()) {
                return n - 1;
            }
        }
        return whole.matcher(s).matches() ? NONE : s.length();
    }

    static List<String> deedsOf(String tale) {
        int fault = faultOf(TALE, tale);
        int until = fault == NONE ? tale.length() : fault;
        List<String> deeds = new ArrayList<>();
        for (int i = 0; i + 3 <= until; i += 3) {
            deeds.add(tale.substring(i, i + 3));
        }
        return deeds;
    }

    static List<String> allDeeds() {
        List<String> all = new ArrayList<>();
        for (char k : "kwgt".toCharArray()) {
            for (char a : "abcd".toCharArray()) {
                for (char b : "abcd".toCharArray()) {
                    all.add("" + k + a + b);
                }
            }
        }
        return all;
    }

    private List<String> deeds(int tale) {
        return deedsOf(tales[tale].toString());
    }

    private Night told(World from, int tale) {
        return new Night(from).hear(deeds(tale));
    }

    private static World dawn(Night n) {
        n.world.nights++;
        return n.world;
    }

    static boolean isTale(int t) {
        return t >= 0 && t <= 2;
    }

    static boolean isName(int n) {
        return n >= 0 && n <= 3;
    }

    int write(int letter) {
        if (letter < 0 || letter > 255) return OUTSIDE;
        if (text.length() == 24) return FULL;
        return text.append((char) letter).length();
    }

    int wipe() {
        int was = text.length();
        text.setLength(0);
        return was;
    }

    int fault() {
        return faultOf(INN, text.toString());
    }

    int inn() {
        if (fault() != NONE) return STATE;
        world = new World();
        for (int i = 1; i < text.length(); i += 4) {
            Guest g = new Guest();
            g.name = text.charAt(i + 1) - 'a';
            g.coins = text.charAt(i + 2) - '0';
            g.power = text.charAt(i + 3) - '0';
            world.guests.add(g);
        }
        acts.clear();
        slots.clear();
        return world.guests.size();
    }

    int quill(int tale, int letter) {
        if (!isTale(tale)) return UNKNOWN;
        if (letter < 0 || letter > 255) return OUTSIDE;
        if (tales[tale].length() == 24) return FULL;
        return tales[tale].append((char) letter).length();
    }

    int blot(int tale) {
        if (!isTale(tale)) return UNKNOWN;
        int was = tales[tale].length();
        tales[tale].setLength(0);
        return was;
    }

    int slip(int tale) {
        return isTale(tale) ? faultOf(TALE, tales[tale].toString()) : UNKNOWN;
    }

    int guest(int guest, int what) {
        if (!world.has(guest)) return UNKNOWN;
        Guest g = world.guests.get(guest);
        if (what == 0) return g.name;
        if (what == 1) return g.coins + 100;
        if (what == 2) return g.power;
        if (what == 3) return g.alive ? 1 : 0;
        if (what == 4) return g.wed == null ? NONE : world.guests.indexOf(g.wed);
        return OUTSIDE;
    }

    int bears(int name) {
        return isName(name) ? world.bits(g -> g.bears(name)) : OUTSIDE;
    }

    private void act() {
        acts.addLast(world.copy());
        if (acts.size() > 12) {
            acts.removeFirst();
        }
    }

    int tell(int tale) {
        if (!isTale(tale)) return UNKNOWN;
        act();
        Night n = told(world, tale);
        world = dawn(n);
        return n.doneBits();
    }

    int give(int guest, int name) {
        if (!world.has(guest)) return UNKNOWN;
        if (!isName(name)) return OUTSIDE;
        Guest g = world.guests.get(guest);
        if (!g.alive || g.name == name) return STATE;
        act();
        int was = g.name;
        g.name = name;
        return was;
    }

    int undo() {
        if (acts.isEmpty()) return STATE;
        world = acts.removeLast();
        return acts.size();
    }

    int would(int tale, int what) {
        if (!isTale(tale)) return UNKNOWN;
        if (what < 0 || what > 3) return OUTSIDE;
        Night n = told(world, tale);
        return new int[] {n.doneBits(), n.fined.size(), n.world.dead(), n.world.sum() + 1000}[what];
    }

    int coins(int tale, int guest) {
        if (!isTale(tale) || !world.has(guest)) return UNKNOWN;
        return told(world, tale).world.guests.get(guest).coins + 100;
    }

    private static boolean isEnd(World w, int guest, int end, int v) {
        Guest g = w.guests.get(guest);
        return end == 0 ? !g.alive
                : end == 1 ? g.wed == w.guests.get(v)
                : end == 2 ? g.coins >= v
                : g.name == v;
    }

    /** The shortest tale, or null. */
    private List<String> shortestTale(int guest, int end, int v) {
        if (isEnd(world, guest, end, v)) return List.of();
        for (String one : allDeeds()) {
            if (isEnd(new Night(world).hear(List.of(one)).world, guest, end, v)) return List.of(one);
        }
        for (String one : allDeeds()) {
            Night first = new Night(world).hear(List.of(one));
            for (String two : allDeeds()) {
                if (isEnd(first.copy().hear(List.of(two)).world, guest, end, v)) return List.of(one, two);
            }
        }
        return null;
    }

    private int endRefused(int guest, int end, int v) {
        if (end < 0 || end > 3) return OUTSIDE;
        if (end == 1 && !world.has(v)) return OUTSIDE;
        if (end == 2 && (v < 0 || v > 20)) return OUTSIDE;
        if (end == 3 && !isName(v)) return OUTSIDE;
        return world.has(guest) ? 0 : UNKNOWN;
    }

    int shortest(int guest, int end, int v) {
        int refused = endRefused(guest, end, v);
        if (refused != 0) return refused;
        List<String> t = shortestTale(guest, end, v);
        return t == null ? NONE : t.size();
    }

    int shortestAt(int guest, int end, int v, int i) {
        if (i < 0) return OUTSIDE;
        int refused = endRefused(guest, end, v);
        if (refused != 0) return refused;
        List<String> t = shortestTale(guest, end, v);
        if (t == null || i >= t.size()) return NONE;
        String d = t.get(i);
        return 100 * "kwgt".indexOf(d.charAt(0)) + 10 * (d.charAt(1) - 'a') + d.charAt(2) - 'a';
    }

    int cut(int tale) {
        if (!isTale(tale)) return UNKNOWN;
        List<String> deeds = deeds(tale);
        for (int fewest = 0; fewest <= deeds.size(); fewest++) {
            for (int set = 0; set < 1 << deeds.size(); set++) {
                if (Integer.bitCount(set) != fewest) continue;
                List<String> others = new ArrayList<>();
                for (int i = 0; i < deeds.size(); i++) {
                    if ((set >> i & 1) == 0) others.add(deeds.get(i));
                }
                if (!new Night(world).hear(others).done.contains(false)) return set;
            }
        }
        return NONE;
    }

    int chosen(int tale, boolean all) {
        if (!isTale(tale)) return UNKNOWN;
        List<String> deeds = deeds(tale);
        if (deeds.size() > 4) return STATE;
        List<Night> nights = List.of(new Night(world));
        for (String deed : deeds) {
            List<Night> next = new ArrayList<>();
            Set<String> keys = new HashSet<>();
            for (Night n : nights) {
                for (Night m : choices(n, deed)) {
                    if (keys.add(m.key())) next.add(m);
                }
            }
            nights = next;
        }
        int some = 0;
        int every = -1;
        for (Night n : nights) {
            some |= n.world.dead();
            every &= n.world.dead();
        }
        return all ? every : some;
    }

    private static List<Night> choices(Night n, String deed) {
        List<Night> r = new ArrayList<>();
        List<Guest> doers = n.doers(deed);
        if (doers.isEmpty()) {
            Night m = n.copy();
            m.noDoer(deed);
            r.add(m);
        }
        for (Guest doer : doers) {
            int d = n.world.guests.indexOf(doer);
            List<Guest> others = n.others(deed, doer);
            if (others.isEmpty()) {
                Night m = n.copy();
                m.fine(m.world.guests.get(d));
                r.add(m);
            }
            for (Guest other : others) {
                Night m = n.copy();
                m.act(deed, m.world.guests.get(d), m.world.guests.get(n.world.guests.indexOf(other)));
                r.add(m);
            }
        }
        return r;
    }

    int round(int tale) {
        if (!isTale(tale)) return UNKNOWN;
        List<String> keys = new ArrayList<>();
        World w = world;
        for (int n = 0; n <= 60; n++) {
            int lesser = keys.indexOf(w.key());
            if (lesser >= 0) return 100 * lesser + n;
            keys.add(w.key());
            w = told(w, tale).world;
        }
        return NONE;
    }

    int kinds(int tale) {
        if (!isTale(tale)) return UNKNOWN;
        Night n = told(world, tale);
        boolean proverb = true;
        for (String d : deeds(tale)) {
            proverb &= bears(d.charAt(1) - 'a') == 0 && bears(d.charAt(2) - 'a') == 0;
        }
        return (proverb ? 1 : 0)
                + (slip(tale) == tales[tale].length() ? 2 : 0)
                + (n.world.key().equals(world.key()) ? 4 : 0)
                + (n.world.dead() != world.dead() ? 8 : 0)
                + (n.fined.isEmpty() ? 0 : 16);
    }

    int odds(int a, int b, int c) {
        for (int o : new int[] {a, b, c}) {
            if (o < 0 || o > 10) return OUTSIDE;
        }
        if (a + b + c != 10) return OUTSIDE;
        int was = odds[0];
        odds = new int[] {a, b, c};
        return was;
    }

    private int meanIn(World w, int guest) {
        int sum = 0;
        for (int t = 0; t < 3; t++) {
            Guest g = told(w, t).world.guests.get(guest);
            for (int i = 0; i < odds[t]; i++) {
                sum += g.alive ? g.coins + 20 : 0;
            }
        }
        return sum;
    }

    private World given(World w, int guest, int name) {
        World r = w.copy();
        r.guests.get(guest).name = name;
        return r;
    }

    int mean(int guest, int name) {
        if (!world.has(guest)) return UNKNOWN;
        if (!isName(name)) return OUTSIDE;
        if (!world.guests.get(guest).alive) return STATE;
        return 1000 + meanIn(given(world, guest, name), guest);
    }

    int toGive(int guest) {
        if (!world.has(guest)) return UNKNOWN;
        if (!world.guests.get(guest).alive) return STATE;
        int best = 0;
        for (int n = 1; n < 4; n++) {
            if (mean(guest, n) > mean(guest, best)) best = n;
        }
        return best;
    }

    int rests(int guest, int other, int what) {
        if (!world.has(guest) || !world.has(other)) return UNKNOWN;
        if (guest == other || what < 0 || what > 1) return OUTSIDE;
        if (!world.guests.get(guest).alive || !world.guests.get(other).alive) return STATE;
        List<Integer> found = new ArrayList<>();
        for (int p = 0; p < 4; p++) {
            for (int q = 0; q < 4; q++) {
                boolean rest = true;
                World here = given(given(world, guest, p), other, q);
                for (int n = 0; n < 4; n++) {
                    rest &= meanIn(given(here, guest, n), guest) <= meanIn(here, guest);
                    rest &= meanIn(given(here, other, n), other) <= meanIn(here, other);
                }
                if (rest) found.add(10 * p + q);
            }
        }
        return what == 0 ? found.size() : found.isEmpty() ? NONE : found.get(0);
    }

    int see(int guest, boolean dead) {
        if (!world.has(guest)) return UNKNOWN;
        if (seen.size() == 6) return FULL;
        seen.add(new Seen(guest, dead, 0));
        return seen.size();
    }

    int seeCoins(int guest, int n) {
        if (!world.has(guest)) return UNKNOWN;
        if (n < -50 || n > 50) return OUTSIDE;
        if (seen.size() == 6) return FULL;
        seen.add(new Seen(guest, null, n));
        return seen.size();
    }

    int unsee() {
        int was = seen.size();
        seen.clear();
        return was;
    }

    private boolean fits(int tale) {
        World w = told(world, tale).world;
        for (Seen s : seen) {
            if (!w.has(s.guest())) continue;
            Guest g = w.guests.get(s.guest());
            if (s.dead() == null ? g.coins != s.coins() : g.alive == s.dead()) return false;
        }
        return true;
    }

    int which() {
        return (fits(0) ? 1 : 0) + (fits(1) ? 2 : 0) + (fits(2) ? 4 : 0);
    }

    int likely(int tale, boolean upper) {
        if (!isTale(tale)) return UNKNOWN;
        int below = 0;
        for (int t = 0; t < 3; t++) {
            below += fits(t) ? odds[t] : 0;
        }
        if (below == 0) return STATE;
        int above = fits(tale) ? odds[tale] : 0;
        int g = java.math.BigInteger.valueOf(above).gcd(java.math.BigInteger.valueOf(below)).intValue();
        return upper ? above / g : below / g;
    }

    long seed(long v) {
        long was = seed;
        seed = v;
        return was;
    }

    int nights(int m) {
        if (m < 1 || m > 40) return OUTSIDE;
        World w = world;
        for (int i = 0; i < m; i++) {
            seed = seed * 6364136223846793005L + 1442695040888963407L;
            int rest = Integer.parseInt(Long.toString((seed >> 33) & 0x7fffffffL)) % 10;
            int tale = rest < odds[0] ? 0 : rest < odds[0] + odds[1] ? 1 : 2;
            w = told(w, tale).world;
        }
        return w.bits(g -> g.alive);
    }

    private static int alive(World w) {
        return (int) w.guests.stream().filter(g -> g.alive).count();
    }

    int keep(int slot) {
        if (slot < 0 || slot > 1) return UNKNOWN;
        slots.put(slot, world.copy());
        return alive(world);
    }

    int again(int slot) {
        if (slot < 0 || slot > 1) return UNKNOWN;
        if (!slots.containsKey(slot)) return STATE;
        world = slots.get(slot).copy();
        acts.clear();
        return alive(world);
    }

    int count(int what) {
        switch (what) {
            case 0: return text.length();
            case 1: return world.guests.size();
            case 2: return world.nights;
            case 3: return world.bits(g -> g.alive);
            case 4: return world.bits(g -> g.wed != null);
            case 5: return world.sum() + 1000;
            case 6: return acts.size();
            case 7: return seen.size();
            case 8:
                int names = 0;
                for (Guest g : world.guests) {
                    names |= g.alive ? 1 << g.name : 0;
                }
                return names;
            case 9: return tales[0].length() + tales[1].length() + tales[2].length();
            default: return OUTSIDE;
        }
    }
}
