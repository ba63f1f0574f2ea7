import java.util.Random;

/** Runs of calls by fixed seeds, of ParasolHours and of SlowParasols: each answer has to be alike. */
public final class RandomRunsTest {
    private static final Checks CHECKS = new Checks("RandomRunsTest");
    private static final int RUNS = 1500;
    private static final int CALLS = 400;
    private static final int[] ODD = {Integer.MIN_VALUE, -65536, -25, -5, -4, -3, -2, -1, 25, 31, 49, 61, 127,
        128, 255, 256, 65536, 10000, 1 << 30, Integer.MAX_VALUE};

    public static void main(String[] args) {
        for (int seed = 0; seed < RUNS; seed++) {
            CHECKS.promise("seed " + seed);
            run(new Random(seed));
        }
        CHECKS.end();
    }

    private static void run(Random random) {
        ParasolHours x = new ParasolHours();
        SlowParasols y = new SlowParasols();
        int calls = 0;
        if (random.nextInt(4) > 0) {
            calls = write(random, x, y, random.nextInt(8) > 0 ? sound(random) : faulty(random));
            CHECKS.due("fault()", x.fault(), y.fault());
            CHECKS.due("lay()", x.lay(), y.lay());
        }
        while (calls < CALLS) {
            call(random, x, y);
            calls++;
        }
        for (int what = 0; what <= 12; what++) {
            CHECKS.due("count(" + what + ") at last", x.count(what), y.count(what));
        }
    }

    private static int write(Random random, ParasolHours x, SlowParasols y, String text) {
        for (char letter : text.toCharArray()) {
            CHECKS.due("write(" + (int) letter + ")", x.write(letter), y.write(letter));
        }
        return text.length();
    }

    private static String number(Random random, int bound) {
        int n = random.nextInt(bound);
        return n < 10 && random.nextInt(6) == 0 ? "0" + n : "" + n;
    }

    private static String sound(Random random) {
        StringBuilder text = new StringBuilder();
        int squares = 6;
        for (int i = random.nextInt(3); i > 0; i--) {
            squares = 1 + random.nextInt(random.nextBoolean() ? 3 : 9);
            text.append('q').append(squares).append(';');
        }
        // Few unlike HOURS, so that PARASOLS and WORKS meet often.
        int first = random.nextInt(24);
        int spread = 1 + random.nextInt(random.nextBoolean() ? 4 : 24);
        int parasols = 1 + random.nextInt(6);
        int persons = 1 + random.nextInt(5);
        int works = random.nextInt(7);
        while (parasols + persons + works > 0) {
            int which = random.nextInt(parasols + persons + works);
            String hour = "" + (first + random.nextInt(spread)) % 24;
            if (which < parasols) {
                text.append('u').append(number(random, 4)).append(',').append(hour).append(',');
                text.append(number(random, 13));
                parasols--;
            } else if (which < parasols + persons) {
                text.append('p').append(random.nextBoolean() ? "0" : number(random, squares));
                persons--;
            } else {
                text.append('w').append(number(random, squares)).append(',');
                text.append(random.nextInt(3) == 0 ? "12" : hour);
                works--;
            }
            text.append(';');
        }
        return text.toString();
    }

    private static String faulty(Random random) {
        StringBuilder text = new StringBuilder(sound(random));
        String letters = "qupw0123456789,,;; xQ:/";
        for (int i = 1 + random.nextInt(3); i > 0; i--) {
            char letter = letters.charAt(random.nextInt(letters.length()));
            int place = random.nextInt(text.length());
            switch (random.nextInt(3)) {
                case 0 -> text.setCharAt(place, letter);
                case 1 -> text.insert(place, letter);
                default -> text.deleteCharAt(place);
            }
        }
        return text.toString();
    }

    /** Mostly a number that is told, now and then one that is not. */
    private static int some(Random random, int bound) {
        int odd = random.nextInt(40);
        if (odd == 0) {
            return ODD[random.nextInt(ODD.length)];
        }
        return odd == 1 ? bound : random.nextInt(bound);
    }

    private static void call(Random random, ParasolHours x, SlowParasols y) {
        int p = some(random, x.count(2));
        int q = some(random, x.count(2));
        int u = some(random, x.count(1));
        int v = some(random, x.count(1));
        int w = some(random, Math.max(1, x.count(3)));
        int h = some(random, 24);
        int two = some(random, 2);
        String with = " " + p + " " + q + " " + u + " " + v + " " + w + " " + h + " " + two;
        int kind = random.nextInt(20);
        if (kind < 9) {
            act(random, x, y, p, q, u, two);
        } else if (kind < 13) {
            ask(random, x, y, p, u, w, with);
        } else if (kind < 16) {
            foresee(random, x, y, p, u, v, w, h, two, with);
        } else if (kind < 19) {
            see(random, x, y, u, h, two, with);
        } else {
            rarely(random, x, y);
        }
    }

    private static void act(Random random, ParasolHours x, SlowParasols y, int p, int q, int u, int way) {
        String with = " " + p + " " + q + " " + u + " " + way;
        switch (random.nextInt(9)) {
            case 0, 1 -> CHECKS.due("take" + with, x.take(p, u), y.take(p, u));
            case 2 -> CHECKS.due("share" + with, x.share(p, q), y.share(p, q));
            case 3 -> CHECKS.due("give" + with, x.give(p), y.give(p));
            case 4, 5 -> CHECKS.due("walk" + with, x.walk(p, way), y.walk(p, way));
            case 6 -> CHECKS.due("mend" + with, x.mend(u), y.mend(u));
            case 7 -> {
                int n = 1 + some(random, random.nextBoolean() ? 2 : 24);
                CHECKS.due("pass " + n, x.pass(n), y.pass(n));
            }
            default -> CHECKS.due("undo", x.undo(), y.undo());
        }
    }

    private static void ask(Random random, ParasolHours x, SlowParasols y, int p, int u, int w, String with) {
        int what = some(random, 5);
        switch (random.nextInt(4)) {
            case 0 -> CHECKS.due("parasol" + with, x.parasol(u, what), y.parasol(u, what));
            case 1 -> CHECKS.due("person" + with, x.person(p, what), y.person(p, what));
            case 2 -> CHECKS.due("work" + with, x.work(w, what), y.work(w, what));
            default -> {
                int many = some(random, 13);
                CHECKS.due("count " + many, x.count(many), y.count(many));
            }
        }
    }

    private static void foresee(Random random, ParasolHours x, SlowParasols y, int p, int u, int v, int w, int h,
            int two, String with) {
        int n = some(random, 49);
        switch (random.nextInt(6)) {
            case 0 -> CHECKS.due("until" + with, x.until(u, h), y.until(u, h));
            case 1 -> CHECKS.due("agree" + with, x.agree(u, v), y.agree(u, v));
            case 2 -> {
                // The slow one looks at each of 7 to the 5 ways: seldom.
                if (random.nextInt(6) == 0) {
                    for (int k = -1; k < x.count(2); k++) {
                        CHECKS.due("deal " + k, x.deal(k), y.deal(k));
                    }
                }
                CHECKS.due("deal -2", x.deal(-2), y.deal(-2));
            }
            case 3 -> CHECKS.due("make" + with, x.make(h), y.make(h));
            case 4 -> CHECKS.due("still " + n, x.still(n), y.still(n));
            default -> CHECKS.due("soonest" + with, x.soonest(w, two), y.soonest(w, two));
        }
    }

    private static void see(Random random, ParasolHours x, SlowParasols y, int u, int h, int two, String with) {
        int n = some(random, 31);
        int few = some(random, 9);
        int tenths = some(random, 11);
        switch (random.nextInt(8)) {
            case 0 -> {
                // Mostly what a PARASOL will tell, so that WHICH is not always empty.
                int told = h;
                if (u >= 0 && u < x.count(1) && n >= 0 && n <= 30) {
                    for (int hour = 0; hour < 24; hour++) {
                        if (x.until(u, hour) == n) {
                            told = hour;
                        }
                    }
                }
                CHECKS.due("see " + told + " " + n, x.see(told, n), y.see(told, n));
            }
            case 1 -> CHECKS.due("forget", x.forget(), y.forget());
            case 2, 3 -> CHECKS.due("which", x.which(), y.which());
            case 4 -> CHECKS.due("set" + with, x.set(u), y.set(u));
            case 5 -> {
                int z = some(random, 10000);
                int hours = 1 + some(random, 60);
                CHECKS.due("day " + z + " " + hours + " " + two, x.day(z, hours, two), y.day(z, hours, two));
            }
            default -> CHECKS.due("flecks" + with + " " + few + " " + tenths,
                x.flecks(u, h, few, tenths, two), y.flecks(u, h, few, tenths, two));
        }
    }

    private static void rarely(Random random, ParasolHours x, SlowParasols y) {
        switch (random.nextInt(12)) {
            case 0, 1, 2 -> CHECKS.due("keep", x.keep(), y.keep());
            case 3, 4, 5 -> CHECKS.due("back", x.back(), y.back());
            case 6, 7 -> {
                int letter = some(random, 127);
                CHECKS.due("write " + letter, x.write(letter), y.write(letter));
            }
            case 8 -> CHECKS.due("wipe", x.wipe(), y.wipe());
            case 9 -> {
                write(random, x, y, sound(random));
                CHECKS.due("lay", x.lay(), y.lay());
            }
            default -> CHECKS.due("fault", x.fault(), y.fault());
        }
    }
}
