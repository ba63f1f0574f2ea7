import java.util.ArrayDeque;
import java.util.ArrayList;
import java.util.Deque;
import java.util.List;
import java.util.regex.Matcher;
import java.util.regex.Pattern;

/**
 * The document once more, told as slowly and plainly as can be: HOUR by HOUR, way by way, with a copy of
 * all for each act. RandomRunsTest holds ParasolHours against it.
 */
final class SlowParasols {
    static final int BAD = -1, NO = -2, FULL = -3, NONE = -4;

    private static final class Parasol {
        int kind, hour, worn;
    }

    private static final class Person {
        int square;
        Parasol under;
        boolean still;
    }

    private static final class Work {
        int square, hour;
        boolean done;
    }

    private static final class World {
        int squares = 6, gone, met;
        List<Parasol> parasols = new ArrayList<>();
        List<Person> persons = new ArrayList<>();
        List<Work> works = new ArrayList<>();

        World copy() {
            World c = new World();
            c.squares = squares;
            c.gone = gone;
            c.met = met;
            for (Parasol u : parasols) {
                Parasol n = new Parasol();
                n.kind = u.kind;
                n.hour = u.hour;
                n.worn = u.worn;
                c.parasols.add(n);
            }
            for (Person p : persons) {
                Person n = new Person();
                n.square = p.square;
                n.still = p.still;
                n.under = p.under == null ? null : c.parasols.get(parasols.indexOf(p.under));
                c.persons.add(n);
            }
            for (Work w : works) {
                Work n = new Work();
                n.square = w.square;
                n.hour = w.hour;
                n.done = w.done;
                c.works.add(n);
            }
            return c;
        }

        List<Person> under(Parasol u) {
            List<Person> all = new ArrayList<>();
            for (Person p : persons) {
                if (p.under == u) {
                    all.add(p);
                }
            }
            return all;
        }

        boolean shade(Person p) {
            if (p.square == 0) {
                return true;
            }
            return p.under != null && p.under.worn <= 12;
        }

        int time(Person p) {
            if (p.under != null && p.under.worn <= 12) {
                return p.under.hour;
            }
            if (p.under == null && p.square == 0) {
                return NONE;
            }
            return 12;
        }

        void hour() {
            for (Work w : works) {
                for (Person p : persons) {
                    if (!w.done && !p.still && p.square == w.square && time(p) == w.hour) {
                        w.done = true;
                    }
                }
            }
            for (Parasol u : parasols) {
                for (Parasol v : parasols) {
                    if (parasols.indexOf(u) < parasols.indexOf(v) && !under(u).isEmpty() && !under(v).isEmpty()
                        && u.hour == v.hour && under(u).get(0).square == under(v).get(0).square) {
                        met++;
                    }
                }
            }
            for (Person p : persons) {
                if (!shade(p)) {
                    p.still = true;
                }
            }
            for (Parasol u : parasols) {
                if (!under(u).isEmpty()) {
                    turn(u, gone);
                }
            }
            gone++;
        }

        static void turn(Parasol u, int gone) {
            boolean even = gone % 2 == 0;
            if (u.kind == 3) {
                u.hour += 2;
            } else if (u.kind != 2 || even) {
                u.hour++;
            }
            u.hour %= 24;
            if (u.kind != 1 || even) {
                u.worn++;
            }
            if (u.worn > 20) {
                u.worn = 20;
            }
        }

        Parasol behind(Parasol u, int n) {
            Parasol c = new Parasol();
            c.kind = u.kind;
            c.hour = u.hour;
            c.worn = u.worn;
            for (int i = 0; i < n; i++) {
                turn(c, gone + i);
            }
            return c;
        }

        int doneWorks() {
            int n = 0;
            for (Work w : works) {
                n += w.done ? 1 : 0;
            }
            return n;
        }
    }

    private World world;
    private String text = "";
    private final Deque<World> past = new ArrayDeque<>();
    private final Deque<World> kept = new ArrayDeque<>();
    private final List<int[]> seen = new ArrayList<>();

    SlowParasols() {
        text = Checks.FIRST;
        lay();
        text = "";
    }

    int write(int letter) {
        if (letter < 32 || letter > 126) {
            return BAD;
        }
        if (text.length() == 200) {
            return FULL;
        }
        text += (char) letter;
        return text.length();
    }

    int wipe() {
        int length = text.length();
        text = "";
        return length;
    }

    private static final Pattern ITEM = Pattern.compile(
        "(?:q(\\d\\d?)|u(\\d\\d?),(\\d\\d?),(\\d\\d?)|p(\\d\\d?)|w(\\d\\d?),(\\d\\d?));");

    /** The place of the fault or NONE; the world as far as it was read. */
    private int read(World w) {
        int at = 0;
        while (at < text.length()) {
            Matcher m = ITEM.matcher(text).region(at, text.length());
            if (!m.lookingAt() || !adds(w, m)) {
                return at;
            }
            at = m.end();
        }
        return NONE;
    }

    private static boolean adds(World w, Matcher m) {
        if (m.group(1) != null) {
            w.squares = Integer.parseInt(m.group(1));
            return w.squares >= 1 && w.squares <= 9
                && w.parasols.isEmpty() && w.persons.isEmpty() && w.works.isEmpty();
        }
        if (m.group(2) != null) {
            Parasol u = new Parasol();
            u.kind = Integer.parseInt(m.group(2));
            u.hour = Integer.parseInt(m.group(3));
            u.worn = Integer.parseInt(m.group(4));
            w.parasols.add(u);
            return u.kind < 4 && u.hour < 24 && u.worn < 13 && w.parasols.size() < 7;
        }
        if (m.group(5) != null) {
            Person p = new Person();
            p.square = Integer.parseInt(m.group(5));
            w.persons.add(p);
            return p.square < w.squares && w.persons.size() < 6;
        }
        Work k = new Work();
        k.square = Integer.parseInt(m.group(6));
        k.hour = Integer.parseInt(m.group(7));
        w.works.add(k);
        return k.square < w.squares && k.hour < 24 && w.works.size() < 7;
    }

    int fault() {
        return read(new World());
    }

    int lay() {
        World w = new World();
        if (read(w) != NONE || w.parasols.isEmpty() || w.persons.isEmpty()) {
            return NO;
        }
        world = w;
        past.clear();
        kept.clear();
        seen.clear();
        return w.persons.size();
    }

    private Parasol parasolAt(int u) {
        return u >= 0 && u < world.parasols.size() ? world.parasols.get(u) : null;
    }

    private Person personAt(int p) {
        return p >= 0 && p < world.persons.size() ? world.persons.get(p) : null;
    }

    private Work workAt(int w) {
        return w >= 0 && w < world.works.size() ? world.works.get(w) : null;
    }

    private int numberOf(Parasol u) {
        return u == null ? NONE : world.parasols.indexOf(u);
    }

    int parasol(int u, int what) {
        Parasol it = parasolAt(u);
        if (it == null || what < 0 || what > 4) {
            return BAD;
        }
        List<Person> under = world.under(it);
        int bits = 0;
        for (Person p : under) {
            bits += 1 << world.persons.indexOf(p);
        }
        return new int[] {it.kind, it.hour, it.worn, bits, under.isEmpty() ? 0 : under.get(0).square}[what];
    }

    int person(int p, int what) {
        Person it = personAt(p);
        if (it == null || what < 0 || what > 4) {
            return BAD;
        }
        return new int[] {it.square, numberOf(it.under), world.time(it), it.still ? 1 : 0,
            world.shade(it) ? 1 : 0}[what];
    }

    int work(int w, int what) {
        Work it = workAt(w);
        if (it == null || what < 0 || what > 2) {
            return BAD;
        }
        return new int[] {it.square, it.hour, it.done ? 1 : 0}[what];
    }

    private void remember() {
        past.addLast(world.copy());
        if (past.size() > 8) {
            past.removeFirst();
        }
    }

    int take(int p, int u) {
        Person who = personAt(p);
        Parasol it = parasolAt(u);
        if (who == null || it == null) {
            return BAD;
        }
        if (who.still || who.square != 0 || who.under != null || !world.under(it).isEmpty()) {
            return NO;
        }
        remember();
        who.under = it;
        return it.hour;
    }

    int share(int p, int q) {
        Person who = personAt(p);
        Person whose = personAt(q);
        if (who == null || whose == null || p == q) {
            return BAD;
        }
        if (who.under != null || whose.under == null || who.square != whose.square
            || world.under(whose.under).size() == 2) {
            return NO;
        }
        remember();
        who.under = whose.under;
        who.still = false;
        return numberOf(who.under);
    }

    int give(int p) {
        Person who = personAt(p);
        if (who == null) {
            return BAD;
        }
        if (who.under == null || world.under(who.under).size() == 1 && who.square != 0) {
            return NO;
        }
        remember();
        int u = numberOf(who.under);
        who.under = null;
        return u;
    }

    int walk(int p, int way) {
        Person who = personAt(p);
        if (who == null || way != 0 && way != 1) {
            return BAD;
        }
        int to = who.square + (way == 0 ? 1 : -1);
        if (who.still || to < 0 || to >= world.squares) {
            return NO;
        }
        remember();
        if (who.under != null) {
            for (Person q : world.under(who.under)) {
                q.square = to;
                q.still = false;
            }
        }
        who.square = to;
        return to;
    }

    int mend(int u) {
        Parasol it = parasolAt(u);
        if (it == null) {
            return BAD;
        }
        if (!world.under(it).isEmpty()) {
            return NO;
        }
        remember();
        int worn = it.worn;
        it.worn = 0;
        return worn;
    }

    int pass(int n) {
        if (n < 1 || n > 24) {
            return BAD;
        }
        remember();
        for (int i = 0; i < n; i++) {
            world.hour();
        }
        return world.gone;
    }

    int undo() {
        if (past.isEmpty()) {
            return NO;
        }
        world = past.removeLast();
        return past.size();
    }

    private static boolean hour(int h) {
        return h >= 0 && h <= 23;
    }

    int until(int u, int h) {
        Parasol it = parasolAt(u);
        if (it == null || !hour(h)) {
            return BAD;
        }
        int n = 0;
        while (n <= 48 && world.behind(it, n).hour != h) {
            n++;
        }
        return n <= 48 ? n : NONE;
    }

    int agree(int u, int v) {
        Parasol one = parasolAt(u);
        Parasol other = parasolAt(v);
        if (one == null || other == null || u == v) {
            return BAD;
        }
        int n = 0;
        while (n <= 48 && world.behind(one, n).hour != world.behind(other, n).hour) {
            n++;
        }
        return n <= 48 ? n : NONE;
    }

    int deal(int k) {
        if (k < -1 || k >= world.persons.size()) {
            return BAD;
        }
        int many = world.parasols.size();
        int[] way = new int[world.persons.size()];
        int[] best = null;
        int most = -1;
        boolean more = true;
        while (more) {
            int works = worksBy(way);
            if (works > most) {
                most = works;
                best = way.clone();
            }
            int i = way.length - 1;
            while (i >= 0 && way[i] == many) {
                way[i--] = 0;
            }
            more = i >= 0;
            if (more) {
                way[i]++;
            }
        }
        if (k == -1) {
            return most;
        }
        return best[k] == many ? NONE : best[k];
    }

    /** How many WORKS this way does; -1, if it is none. The number behind the last PARASOL is none. */
    private int worksBy(int[] way) {
        int many = world.parasols.size();
        for (int i = 0; i < way.length; i++) {
            if (world.persons.get(i).still && way[i] != many) {
                return -1;
            }
            for (int j = 0; j < i; j++) {
                if (way[i] == way[j] && way[i] != many) {
                    return -1;
                }
            }
        }
        World w = world.copy();
        int before = w.doneWorks();
        for (int i = 0; i < way.length; i++) {
            w.persons.get(i).under = way[i] == many ? null : w.parasols.get(way[i]);
        }
        int done = 0;
        for (Work k : w.works) {
            boolean by = false;
            for (Person p : w.persons) {
                by |= !p.still && p.square == k.square && w.time(p) == k.hour;
            }
            done += by || k.done ? 1 : 0;
        }
        return done - before;
    }

    int make(int h) {
        if (!hour(h)) {
            return BAD;
        }
        for (int fewest = 1; fewest <= 6; fewest++) {
            for (int set = 1; set < 1 << world.parasols.size(); set++) {
                int sum = 0;
                for (int u = 0; u < world.parasols.size(); u++) {
                    sum += (set >> u) % 2 * world.parasols.get(u).hour;
                }
                if (Integer.bitCount(set) == fewest && sum % 24 == h) {
                    return set;
                }
            }
        }
        return NONE;
    }

    int still(int n) {
        if (n < 0 || n > 48) {
            return BAD;
        }
        World w = world.copy();
        for (int i = 0; i < n; i++) {
            w.hour();
        }
        int bits = 0;
        for (int p = 0; p < w.persons.size(); p++) {
            bits += w.persons.get(p).still ? 1 << p : 0;
        }
        return bits;
    }

    int soonest(int w, int what) {
        Work it = workAt(w);
        if (it == null || what != 0 && what != 1) {
            return BAD;
        }
        if (it.done) {
            return NO;
        }
        for (int n = 0; n <= 48; n++) {
            for (int p = 0; p < world.persons.size(); p++) {
                Person who = world.persons.get(p);
                if (!who.still && who.under != null && until(numberOf(who.under), it.hour) == n
                    && world.behind(who.under, n).worn <= 12) {
                    return what == 0 ? p : n;
                }
            }
        }
        return NONE;
    }

    int see(int h, int n) {
        if (!hour(h) || n < 0 || n > 30) {
            return BAD;
        }
        if (seen.size() == 6) {
            return FULL;
        }
        seen.add(new int[] {h, n});
        return seen.size();
    }

    int forget() {
        int many = seen.size();
        seen.clear();
        return many;
    }

    private boolean so(Parasol u) {
        for (int[] s : seen) {
            if (world.behind(u, s[1]).hour != s[0]) {
                return false;
            }
        }
        return true;
    }

    int which() {
        int bits = 0;
        for (Parasol u : world.parasols) {
            bits += so(u) ? 1 << numberOf(u) : 0;
        }
        return bits;
    }

    int set(int u) {
        Parasol it = parasolAt(u);
        if (it == null) {
            return BAD;
        }
        int bits = 0;
        for (int h = 0; h < 24; h++) {
            Parasol like = new Parasol();
            like.kind = it.kind;
            like.hour = h;
            bits += so(like) ? 1 << h : 0;
        }
        return bits;
    }

    int flecks(int u, int h, int n, int x, int part) {
        Parasol it = parasolAt(u);
        if (it == null || !hour(h) || n < 0 || n > 8 || x < 0 || x > 10 || part != 0 && part != 1) {
            return BAD;
        }
        long above = 0;
        long below = 1;
        for (int i = 0; i < n; i++) {
            below *= 10;
        }
        for (int falls = 0; falls < 1 << n; falls++) {
            long ways = 1;
            int hour = it.hour;
            for (int i = 0; i < n; i++) {
                Parasol step = new Parasol();
                step.kind = it.kind;
                step.hour = hour;
                World.turn(step, world.gone + i);
                boolean falling = (falls >> i & 1) == 1;
                hour = falling ? step.hour : hour;
                ways *= falling ? x : 10 - x;
            }
            above += hour == h ? ways : 0;
        }
        long a = above;
        long b = below;
        while (b != 0) {
            long rest = a % b;
            a = b;
            b = rest;
        }
        return (int) ((part == 0 ? above : below) / a);
    }

    int day(int z, int n, int what) {
        if (z < 0 || z > 9999 || n < 1 || n > 60 || what != 0 && what != 1) {
            return BAD;
        }
        World real = world;
        List<World> realPast = new ArrayList<>(past);
        int met = world.met;
        world = world.copy();
        for (int k = 0; k < n; k++) {
            long x = 7919L * z + 6151L * k + 1;
            int draw = (int) (x * x % 65521);
            act(draw % 8, draw / 8 % world.persons.size(), draw / 64);
            world.hour();
        }
        int answer = what == 0 ? world.doneWorks() : world.met - met;
        world = real;
        past.clear();
        past.addAll(realPast);
        return answer;
    }

    private void act(int kind, int p, int rest) {
        switch (kind) {
            case 0, 1 -> take(p, rest % world.parasols.size());
            case 2 -> share(p, rest % world.persons.size());
            case 3 -> give(p);
            case 4, 5, 6 -> walk(p, rest % 2);
            default -> mend(rest % world.parasols.size());
        }
    }

    int keep() {
        if (kept.size() == 2) {
            return FULL;
        }
        kept.addLast(world.copy());
        return kept.size();
    }

    int back() {
        if (kept.isEmpty()) {
            return NO;
        }
        world = kept.removeLast();
        past.clear();
        return kept.size();
    }

    int count(int what) {
        if (what < 0 || what > 12) {
            return BAD;
        }
        int inStand = 0;
        for (Parasol u : world.parasols) {
            inStand += world.under(u).isEmpty() ? 1 : 0;
        }
        return new int[] {world.squares, world.parasols.size(), world.persons.size(), world.works.size(),
            world.gone, world.doneWorks(), world.met, Integer.bitCount(still(0)), inStand, seen.size(),
            past.size(), kept.size(), text.length()}[what];
    }
}
