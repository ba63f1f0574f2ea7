import java.math.BigInteger;

/** Promises 26 to 30: flecks, days, what is kept, and counts. */
public final class DaysTest {
    private static final int BAD = ParasolHours.BAD, NO = ParasolHours.NO, FULL = ParasolHours.FULL;
    private static final int NONE = ParasolHours.NONE;
    private static final Checks CHECKS = new Checks("DaysTest");

    public static void main(String[] args) {
        flecks();
        flecksOfAll();
        flecksBad();
        day();
        dayByHand();
        dayBad();
        keep();
        keepAll();
        back();
        count();
        CHECKS.end();
    }

    private static void flecks() {
        CHECKS.promise("26 flecks");
        ParasolHours x = Checks.laid("q3;u0,22,0;u1,22,0;u2,22,0;u3,22,12;p0;");
        for (int u = 0; u < 4; u++) {
            CHECKS.chance(x, u, 22, 0, 5, 1, 1);
            CHECKS.chance(x, u, 23, 0, 5, 0, 1);
            CHECKS.chance(x, u, 22, 8, 0, 1, 1);
            CHECKS.chance(x, u, 23, 8, 0, 0, 1);
        }
        CHECKS.chance(x, 0, 6, 8, 10, 1, 1);
        CHECKS.chance(x, 2, 2, 8, 10, 1, 1);
        CHECKS.chance(x, 3, 14, 8, 10, 1, 1);
        CHECKS.chance(x, 0, 23, 1, 3, 3, 10);
        CHECKS.chance(x, 0, 22, 1, 3, 7, 10);
        CHECKS.chance(x, 1, 2, 8, 5, 35, 128);
        CHECKS.chance(x, 0, 22, 8, 1, 43046721, 100000000);
        CHECKS.chance(x, 0, 6, 8, 1, 1, 100000000);
        CHECKS.chance(x, 0, 6, 8, 2, 1, 390625);
        CHECKS.chance(x, 0, 7, 8, 2, 0, 1);
        CHECKS.chance(x, 2, 0, 3, 2, 1, 25);
        CHECKS.chance(x, 2, 0, 4, 2, 1, 25);
        CHECKS.chance(x, 3, 2, 2, 5, 1, 4);
        CHECKS.chance(x, 3, 23, 2, 5, 0, 1);
        x.pass(1);
        CHECKS.chance(x, 2, 0, 3, 2, 0, 1);
        CHECKS.chance(x, 2, 23, 3, 2, 1, 5);
        CHECKS.chance(x, 2, 23, 1, 2, 0, 1);
        CHECKS.chance(x, 2, 22, 1, 2, 1, 1);
    }

    /** Each against a sum over all ways to fall, HOUR by HOUR. */
    private static void flecksOfAll() {
        CHECKS.promise("26 flecks: each");
        for (int gone = 0; gone < 2; gone++) {
            ParasolHours x = Checks.laid("q3;u0,22,0;u1,5,0;u2,22,0;u3,22,12;p0;");
            if (gone > 0) {
                x.pass(gone);
            }
            for (int n = 0; n <= 8; n += gone + 1) {
                for (int tenths = 0; tenths <= 10; tenths++) {
                    for (int u = 0; u < 4; u++) {
                        everyHour(x, u, n, tenths, gone);
                    }
                }
            }
        }
    }

    private static void everyHour(ParasolHours x, int u, int n, int tenths, int gone) {
        long[] ways = new long[24];
        ways[x.parasol(u, 1)] = 1;
        for (int i = gone; i < gone + n; i++) {
            int step = u == 3 ? 2 : u == 2 && i % 2 == 1 ? 0 : 1;
            long[] next = new long[24];
            for (int h = 0; h < 24; h++) {
                next[h] += ways[h] * (10 - tenths);
                next[(h + step) % 24] += ways[h] * tenths;
            }
            ways = next;
        }
        BigInteger all = BigInteger.TEN.pow(n);
        for (int h = 0; h < 24; h++) {
            BigInteger above = BigInteger.valueOf(ways[h]);
            BigInteger common = above.gcd(all);
            CHECKS.chance(x, u, h, n, tenths, above.divide(common).intValue(), all.divide(common).intValue());
        }
    }

    private static void flecksBad() {
        CHECKS.promise("26 flecks: BAD");
        ParasolHours x = new ParasolHours();
        int[][] calls = {{-1, 0, 0, 0, 0}, {5, 0, 0, 0, 0}, {0, -1, 0, 0, 0}, {0, 24, 0, 0, 0}, {0, 0, -1, 0, 0},
            {0, 0, 9, 0, 0}, {0, 0, 0, -1, 0}, {0, 0, 0, 11, 0}, {0, 0, 0, 0, -1}, {0, 0, 0, 0, 2}};
        for (int[] c : calls) {
            CHECKS.due("flecks" + java.util.Arrays.toString(c), x.flecks(c[0], c[1], c[2], c[3], c[4]), BAD);
        }
    }

    static int draw(int z, int k) {
        BigInteger seed = BigInteger.valueOf(7919L * z + 6151L * k + 1);
        return seed.multiply(seed).mod(BigInteger.valueOf(65521)).intValue();
    }

    /** A day by the acts of the face itself, on an object that may be spoilt. */
    static int[] actedDay(ParasolHours x, int z, int n) {
        int met = x.count(6);
        for (int k = 0; k < n; k++) {
            int draw = draw(z, k);
            int p = draw / 8 % x.count(2);
            int u = draw / 64 % x.count(1);
            int act = draw % 8;
            if (act < 2) {
                x.take(p, u);
            } else if (act == 2) {
                x.share(p, draw / 64 % x.count(2));
            } else if (act == 3) {
                x.give(p);
            } else if (act < 7) {
                x.walk(p, draw / 64 % 2);
            } else {
                x.mend(u);
            }
            x.pass(1);
        }
        return new int[] {x.count(5), x.count(6) - met};
    }

    private static void day() {
        CHECKS.promise("27 day");
        String[] texts = {
            Checks.FIRST,
            "q1;u0,12,0;u0,12,0;u0,12,0;u3,12,3;p0;p0;p0;p0;p0;w0,13;w0,20;w0,3;w0,12;",
            "q2;u0,12,0;u1,12,0;u2,12,0;u3,12,3;u0,11,0;u1,0,9;p0;p0;p0;w0,13;w1,20;w1,12;w0,14;w1,13;w1,14;",
        };
        for (String text : texts) {
            for (int z = 0; z < 10000; z += 41) {
                int n = 1 + z % 60;
                ParasolHours x = Checks.laid(text);
                oddStart(x, z);
                String before = Checks.picture(x);
                int works = x.day(z, n, 0);
                int met = x.day(z, n, 1);
                CHECKS.holds("nothing changes by a day", Checks.picture(x).equals(before));
                int[] wants = actedDay(x, z, n);
                CHECKS.due("day(" + z + ", " + n + ", 0)", works, wants[0]);
                CHECKS.due("day(" + z + ", " + n + ", 1)", met, wants[1]);
            }
        }
    }

    /** Some HOURS, WORKS and APPOINTMENTS ahead of the day, so that it does not begin with none. */
    private static void oddStart(ParasolHours x, int z) {
        if (z % 2 == 0) {
            x.take(0, 0);
            x.take(1, 1);
            x.pass(1 + z % 3);
        }
    }

    private static void dayByHand() {
        CHECKS.promise("27 day: what is done ahead of it");
        ParasolHours x = Checks.laid("q2;u0,12,0;u0,12,0;p0;p0;w0,12;w1,13;");
        x.take(0, 0);
        x.take(1, 1);
        // z 0, k 0: the DRAW is 1, so person 0 would take parasol 0; it can't be.
        CHECKS.due("day(0, 1, 0)", x.day(0, 1, 0), 1);
        CHECKS.due("day(0, 1, 1)", x.day(0, 1, 1), 1);
        x.pass(2);
        CHECKS.due("count(6)", x.count(6), 2);
        CHECKS.due("day(0, 1, 0): with those done ahead", x.day(0, 1, 0), 1);
        CHECKS.due("day(0, 1, 1): in the day alone", x.day(0, 1, 1), 1);
        // z 1, k 0: 7920 times 7920 modulo 65521 is 22803: person 0 (2850) gives up (3), so it is in the stand.
        CHECKS.due("day(1, 1, 1)", x.day(1, 1, 1), 0);
        CHECKS.due("count(10)", x.count(10), 3);
    }

    private static void dayBad() {
        CHECKS.promise("27 day: BAD");
        ParasolHours x = new ParasolHours();
        CHECKS.due("day(-1, 1, 0)", x.day(-1, 1, 0), BAD);
        CHECKS.due("day(10000, 1, 0)", x.day(10000, 1, 0), BAD);
        CHECKS.due("day(0, 0, 0)", x.day(0, 0, 0), BAD);
        CHECKS.due("day(0, 61, 0)", x.day(0, 61, 0), BAD);
        CHECKS.due("day(0, 1, -1)", x.day(0, 1, -1), BAD);
        CHECKS.due("day(0, 1, 2)", x.day(0, 1, 2), BAD);
        CHECKS.holds("day(9999, 60, 0) is none of these", x.day(9999, 60, 0) >= 0);
    }

    private static void keep() {
        CHECKS.promise("28 keep");
        ParasolHours x = new ParasolHours();
        CHECKS.due("keep()", x.keep(), 1);
        CHECKS.due("keep()", x.keep(), 2);
        CHECKS.due("keep() of a third", x.keep(), FULL);
        CHECKS.due("count(11)", x.count(11), 2);
        CHECKS.due("back()", x.back(), 1);
        CHECKS.due("keep()", x.keep(), 2);
        CHECKS.due("keep() of a third", x.keep(), FULL);
        x.take(0, 0);
        CHECKS.due("keep() of a third", x.keep(), FULL);
        x.back();
        CHECKS.due("person(0, 1): as KEPT, not as it was then", x.person(0, 1), NONE);
        ParasolHours acts = new ParasolHours();
        acts.take(0, 0);
        acts.pass(2);
        acts.keep();
        CHECKS.due("undo() behind keep()", acts.undo(), 1);
        CHECKS.due("count(11): not undone", acts.count(11), 1);
    }

    private static void keepAll() {
        CHECKS.promise("28 keep: all as it stands");
        ParasolHours x = Checks.laid("q3;u0,12,12;u1,12,3;p0;p0;p1;w1,12;w0,12;");
        x.take(0, 0);
        x.take(1, 1);
        x.pass(3);
        x.walk(0, 0);
        String first = Checks.scene(x);
        CHECKS.due("keep()", x.keep(), 1);
        x.share(2, 0);
        x.walk(2, 1);
        x.give(1);
        x.mend(1);
        x.pass(5);
        String second = Checks.scene(x);
        CHECKS.holds("it differs", !first.equals(second));
        CHECKS.due("keep()", x.keep(), 2);
        x.walk(0, 0);
        x.pass(24);
        x.see(4, 4);
        Checks.write(x, "p0;");
        CHECKS.due("back()", x.back(), 1);
        CHECKS.holds("as KEPT last", Checks.scene(x).equals(second));
        x.pass(1);
        CHECKS.due("back()", x.back(), 0);
        CHECKS.holds("as KEPT first", Checks.scene(x).equals(first));
        CHECKS.due("count(9): SEEN stays", x.count(9), 1);
        CHECKS.due("count(12): THE TEXT stays", x.count(12), 3);
        CHECKS.due("back() of none", x.back(), NO);
    }

    private static void back() {
        CHECKS.promise("29 back");
        ParasolHours x = new ParasolHours();
        CHECKS.due("back() of none", x.back(), NO);
        x.take(0, 0);
        x.keep();
        x.pass(2);
        x.walk(0, 0);
        CHECKS.due("count(10)", x.count(10), 3);
        CHECKS.due("back()", x.back(), 0);
        CHECKS.due("count(4)", x.count(4), 0);
        CHECKS.due("person(0, 1)", x.person(0, 1), 0);
        CHECKS.due("count(10)", x.count(10), 0);
        CHECKS.due("undo()", x.undo(), NO);
        CHECKS.due("back() again", x.back(), NO);
        CHECKS.due("walk(0, 0)", x.walk(0, 0), 1);
        CHECKS.due("back() of none changes nothing", x.back(), NO);
        CHECKS.due("count(10)", x.count(10), 1);
        CHECKS.due("undo()", x.undo(), 0);
    }

    private static void count() {
        CHECKS.promise("30 count");
        String text = "q4;u0,12,12;u1,12,3;u3,1,1;p0;p0;p1;p3;w1,12;w0,12;w3,12;w2,2;w2,3;";
        ParasolHours x = Checks.laid(text);
        x.take(0, 0);
        x.take(1, 1);
        x.pass(3);
        x.see(1, 1);
        x.see(2, 2);
        x.keep();
        int[] wants = {4, 3, 4, 5, 3, 3, 3, 2, 1, 2, 3, 1, text.length()};
        for (int what = 0; what < wants.length; what++) {
            CHECKS.due("count(" + what + ")", x.count(what), wants[what]);
        }
        CHECKS.due("count(-1)", x.count(-1), BAD);
        CHECKS.due("count(13)", x.count(13), BAD);
        CHECKS.due("count(greatest)", x.count(Integer.MAX_VALUE), BAD);
        CHECKS.due("count(least)", x.count(Integer.MIN_VALUE), BAD);
    }
}
