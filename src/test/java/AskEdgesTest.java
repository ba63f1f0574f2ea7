/** The boundary cases of Terms 3, sentence by sentence: UNTIL, AGREE, DEAL, MAKE, STILL, SOONEST. */
public final class AskEdgesTest {
    private static final int BAD = ParasolHours.BAD, NO = ParasolHours.NO, NONE = ParasolHours.NONE;
    private static final Checks CHECKS = new Checks("AskEdgesTest");

    public static void main(String[] args) {
        untilEachHour();
        untilOfUnderAndInTheStand();
        agreeOfEachTwo();
        agreeNone();
        dealOfOne();
        dealOfNoWork();
        dealOfMorePersonsThanParasols();
        dealOfFirstAndLast();
        dealOfTimeAtNoon();
        dealOfWorn();
        dealOfDone();
        dealOfStill();
        dealWherever();
        makeOfOneToSix();
        makeRoundTheDial();
        makeOfSeveral();
        stillBehind();
        stillOfNobodyAndAll();
        soonestByWorn();
        soonestByBlack();
        soonestTies();
        soonestOfStill();
        soonestNone();
        CHECKS.end();
    }

    private static final String KINDS_AT = "q3;u0,#,0;u1,#,0;u2,#,0;u3,#,0;p0;";

    private static ParasolHours kindsAt(int hour, int gone) {
        ParasolHours x = Checks.laid(KINDS_AT.replace("#", "" + hour));
        for (int i = 0; i < gone; i++) {
            x.pass(1);
        }
        return x;
    }

    private static void untilEachHour() {
        CHECKS.promise("UNTIL: each HOUR from each HOUR");
        for (int hour = 0; hour < 24; hour++) {
            for (int gone = 0; gone < 2; gone++) {
                ParasolHours x = kindsAt(hour, gone);
                for (int to = 0; to < 24; to++) {
                    int ahead = (to - hour + 24) % 24;
                    CHECKS.due("until(0, " + to + ")", x.until(0, to), ahead);
                    CHECKS.due("until(1, " + to + ")", x.until(1, to), ahead);
                    int lace = ahead == 0 ? 0 : 2 * ahead - 1 + gone;
                    CHECKS.due("until(2, " + to + ")", x.until(2, to), lace);
                    CHECKS.due("until(3, " + to + ")", x.until(3, to), ahead % 2 == 0 ? ahead / 2 : NONE);
                }
            }
        }
        // The longest of all: 23 more for a LACE one from an odd HOUR on.
        CHECKS.due("until(2, 9)", kindsAt(10, 1).until(2, 9), 46);
    }

    private static void untilOfUnderAndInTheStand() {
        CHECKS.promise("UNTIL: anybody being under it from now on");
        ParasolHours x = Checks.laid("q3;u0,10,12;u0,10,12;p0;p0;");
        x.take(0, 0);
        x.walk(0, 0);
        CHECKS.due("until(0, 8) under somebody", x.until(0, 8), 22);
        CHECKS.due("until(1, 8) in the STAND", x.until(1, 8), 22);
        x.pass(3);
        CHECKS.due("until(0, 13), STILL and WORN", x.until(0, 13), 0);
        CHECKS.due("until(0, 8), STILL and WORN", x.until(0, 8), 19);
        CHECKS.due("until(1, 10)", x.until(1, 10), 0);
        for (int n = 0; n < 24; n++) {
            int h = (13 + n) % 24;
            CHECKS.due("until(0, " + h + ")", x.until(0, h), n);
        }
    }

    private static void agreeOfEachTwo() {
        CHECKS.promise("AGREE: first, both, behind 0 to 48");
        for (int gone = 0; gone < 2; gone++) {
            for (int apart = 0; apart < 24; apart++) {
                int other = (5 + apart) % 24;
                String others = "u0,#,0;u3,#,0;".replace("#", "" + other);
                ParasolHours x = Checks.laid("q3;u0,5,0;u1,5,0;u2,5,0;u3,5,0;" + others + "p0;");
                for (int i = 0; i < gone; i++) {
                    x.pass(1);
                }
                for (int u = 0; u < 6; u++) {
                    for (int v = 0; v < 6; v++) {
                        int want = u == v ? BAD : agreed(x, u, v, gone);
                        CHECKS.due("agree(" + u + ", " + v + ") by " + apart, x.agree(u, v), want);
                    }
                }
            }
        }
    }

    /** HOUR by HOUR. */
    private static int agreed(ParasolHours x, int u, int v, int gone) {
        int one = x.parasol(u, 1);
        int other = x.parasol(v, 1);
        for (int n = 0; n <= 48; n++) {
            if (one % 24 == other % 24) {
                return n;
            }
            one += step(x.parasol(u, 0), gone + n);
            other += step(x.parasol(v, 0), gone + n);
        }
        return NONE;
    }

    private static int step(int kind, int hour) {
        return kind == 3 ? 2 : kind == 2 && hour % 2 == 1 ? 0 : 1;
    }

    private static void agreeNone() {
        CHECKS.promise("AGREE: none");
        ParasolHours x = Checks.laid("q3;u0,5,0;u1,6,0;u0,5,0;u2,4,0;u2,5,0;u0,4,0;p0;");
        CHECKS.due("agree(0, 1): never", x.agree(0, 1), NONE);
        CHECKS.due("agree(3, 4): never", x.agree(3, 4), NONE);
        CHECKS.due("agree(0, 2): now", x.agree(0, 2), 0);
        CHECKS.due("agree(3, 0): at last", x.agree(3, 0), 46);
        CHECKS.due("agree(0, 3): at last", x.agree(0, 3), 46);
        CHECKS.due("agree(4, 5): soon", x.agree(4, 5), 2);
        x.pass(1);
        CHECKS.due("agree(3, 0): at last, from HOUR 1", x.agree(3, 0), 45);
        CHECKS.due("agree(4, 5): soon, from HOUR 1", x.agree(4, 5), 1);
    }

    private static void dealOfOne() {
        CHECKS.promise("DEAL: of one");
        CHECKS.dealt(Checks.laid("q1;u0,5,0;p0;"), 0, 0);
        CHECKS.dealt(Checks.laid("q1;u0,5,0;p0;w0,5;"), 1, 0);
        CHECKS.dealt(Checks.laid("q1;u0,12,0;p0;w0,12;"), 1, 0);
        CHECKS.dealt(Checks.laid("q1;u0,5,0;p0;w0,12;"), 0, 0);
        CHECKS.dealt(Checks.laid("q2;u0,5,0;p1;w1,12;"), 1, NONE);
        CHECKS.dealt(Checks.laid("q2;u0,5,0;p1;w1,12;w1,5;"), 1, 0);
        CHECKS.dealt(Checks.laid("q2;u0,5,0;p1;w1,12;w1,12;w1,5;"), 2, NONE);
        CHECKS.dealt(Checks.laid("q2;u0,5,0;p1;w1,5;w1,5;w1,5;w1,5;w1,5;w1,5;"), 6, 0);
    }

    private static void dealOfNoWork() {
        CHECKS.promise("DEAL: no WORK at all, so the first way");
        CHECKS.dealt(Checks.laid("q2;u0,5,0;u0,5,0;p1;p0;"), 0, 0, 1);
        CHECKS.dealt(Checks.laid("q2;u0,5,0;u0,5,0;u0,5,0;u0,5,0;u0,5,0;u0,5,0;p1;p0;p1;p0;p1;"), 0, 0, 1, 2, 3, 4);
        CHECKS.dealt(Checks.laid("q2;u0,5,0;p1;p0;p1;p0;p1;"), 0, 0, NONE, NONE, NONE, NONE);
        CHECKS.dealt(Checks.laid("q3;u0,5,0;p1;p0;w2,12;w2,5;"), 0, 0, NONE);
    }

    private static void dealOfMorePersonsThanParasols() {
        CHECKS.promise("DEAL: none is behind all PARASOLS");
        CHECKS.dealt(Checks.laid("q3;u0,5,0;p1;p1;p1;p1;p2;w2,5;"), 1, NONE, NONE, NONE, NONE, 0);
        CHECKS.dealt(Checks.laid("q3;u0,5,0;u0,6,0;p1;p1;p1;p1;p2;w2,5;"), 1, 1, NONE, NONE, NONE, 0);
        CHECKS.dealt(Checks.laid("q3;u0,5,0;u0,6,0;p1;p2;p1;p1;p2;w2,5;w2,6;"), 2, NONE, 0, NONE, NONE, 1);
        CHECKS.dealt(Checks.laid("q3;u0,5,0;u0,6,0;p1;p2;p1;p1;p2;w2,6;w1,12;"), 2, 0, 1, NONE, NONE, NONE);
        // Two could: the lower PERSON's lower PARASOL counts ahead of all that comes behind.
        CHECKS.dealt(Checks.laid("q3;u0,5,0;u0,5,0;u0,7,0;p2;p2;w2,7;w2,5;"), 2, 0, 2);
        CHECKS.dealt(Checks.laid("q3;u0,5,0;u0,7,0;u0,7,0;p2;p2;w2,7;w2,5;"), 2, 0, 1);
        CHECKS.dealt(Checks.laid("q3;u0,7,0;u0,5,0;u0,7,0;p2;p2;w2,7;w2,5;"), 2, 0, 1);
    }

    private static void dealOfFirstAndLast() {
        CHECKS.promise("DEAL: each PERSON, each PARASOL");
        for (int p = 0; p < 5; p++) {
            for (int u = 0; u < 6; u++) {
                StringBuilder text = new StringBuilder("q3;");
                for (int v = 0; v < 6; v++) {
                    text.append(v == u ? "u0,9,0;" : "u0,8,0;");
                }
                for (int q = 0; q < 5; q++) {
                    text.append(q == p ? "p2;" : "p1;");
                }
                int[] wants = new int[5];
                int next = 0;
                for (int q = 0; q < 5; q++) {
                    next += next == u && q != p ? 1 : 0;
                    wants[q] = q == p ? u : next++;
                }
                CHECKS.dealt(Checks.laid(text + "w2,9;"), 1, wants);
            }
        }
    }

    private static void dealOfTimeAtNoon() {
        CHECKS.promise("DEAL: TIME under none");
        // On SQUARE 0 under none there is none: nobody there does the WORK at 12.
        CHECKS.dealt(Checks.laid("q2;u0,5,0;p0;p0;w0,12;w0,12;"), 0, 0, NONE);
        CHECKS.dealt(Checks.laid("q2;u0,5,0;p0;p1;w0,12;w1,12;"), 1, 0, NONE);
        CHECKS.dealt(Checks.laid("q2;u0,12,0;p0;p1;w0,12;w1,12;"), 2, 0, NONE);
        CHECKS.dealt(Checks.laid("q2;u0,12,0;p1;p1;w1,12;"), 1, 0, NONE);
    }

    private static void dealOfWorn() {
        CHECKS.promise("DEAL: WORN ones as such");
        for (int worn = 10; worn <= 12; worn++) {
            ParasolHours x = Checks.laid("q2;u0,5," + worn + ";p0;p0;w0,6;w0,12;w0,12;");
            x.take(0, 0);
            x.pass(1);
            // 6 under it while it is WORN by 12 or less; by 13 it is NOON under it, on SQUARE 0 too.
            CHECKS.dealt(x, worn == 12 ? 2 : 1, 0, NONE);
        }
        ParasolHours x = Checks.laid("q2;u0,5,12;u0,9,12;p0;p0;w0,6;");
        x.take(0, 0);
        x.take(1, 1);
        x.pass(1);
        CHECKS.dealt(x, 0, 0, 1);
        x = Checks.laid("q2;u0,5,11;u0,9,11;p0;p0;w0,6;");
        x.take(0, 0);
        x.take(1, 1);
        x.pass(1);
        CHECKS.dealt(x, 1, 0, 1);
        x = Checks.laid("q2;u0,5,11;u0,9,11;p0;p0;w0,10;w0,6;w0,6;");
        x.take(1, 1);
        x.pass(1);
        // HOUR 5 in the STAND, 10 under the second one.
        CHECKS.dealt(x, 1, 0, 1);
    }

    private static void dealOfDone() {
        CHECKS.promise("DEAL: those done aside");
        ParasolHours x = Checks.laid("q2;u0,5,0;u3,7,0;p0;p0;w0,5;w0,6;w0,7;");
        CHECKS.dealt(x, 2, 0, 1);
        x.take(0, 0);
        x.pass(1);
        CHECKS.dealt(x, 2, 0, 1);
        x.pass(1);
        // 7 under each now, and the WORK at 7 is left alone.
        CHECKS.due("count(5)", x.count(5), 2);
        CHECKS.dealt(x, 1, 0, 1);
        x.pass(1);
        CHECKS.due("count(5)", x.count(5), 3);
        CHECKS.dealt(x, 0, 0, 1);
        x.undo();
        CHECKS.dealt(x, 1, 0, 1);
    }

    private static void dealOfStill() {
        CHECKS.promise("DEAL: PERSONS that are not STILL");
        ParasolHours x = Checks.laid("q3;u0,5,0;u0,6,0;p1;p0;p2;p0;w1,5;w2,6;w0,6;w0,5;");
        CHECKS.dealt(x, 2, 0, 1, NONE, NONE);
        x.pass(1);
        CHECKS.dealt(x, 2, NONE, 0, NONE, 1);
        x.take(1, 0);
        x.walk(1, 0);
        x.share(0, 1);
        CHECKS.due("count(7)", x.count(7), 1);
        // Not STILL any more: of the ways that do two, the lowest PERSON's lowest PARASOL is 0.
        CHECKS.dealt(x, 2, 0, NONE, NONE, 1);
        x = Checks.laid("q3;u0,5,0;p1;p2;p1;w1,5;w1,12;");
        x.pass(1);
        CHECKS.dealt(x, 0, NONE, NONE, NONE);
    }

    private static void dealWherever() {
        CHECKS.promise("DEAL: wherever it is, all unlike, where they are now");
        ParasolHours x = Checks.laid("q9;u0,5,0;u0,6,0;p0;p0;p8;w8,5;w1,5;w0,6;");
        x.take(0, 0);
        CHECKS.dealt(x, 2, 1, NONE, 0);
        x.share(1, 0);
        CHECKS.dealt(x, 2, 1, NONE, 0);
        CHECKS.due("walk(0, 0)", x.walk(0, 0), 1);
        CHECKS.dealt(x, 1, 0, 1, NONE);
        x.give(1);
        CHECKS.due("walk(0, 1)", x.walk(0, 1), 0);
        CHECKS.dealt(x, 2, 1, 0, NONE);
        // What is so by two under one PARASOL is no way.
        CHECKS.dealt(Checks.laid("q3;u0,5,0;p1;p2;w1,5;w2,5;w2,5;"), 2, NONE, 0);
    }

    private static void made(String hours, int h, int want) {
        StringBuilder text = new StringBuilder();
        for (String hour : hours.split(" ")) {
            text.append("u0,").append(hour).append(",0;");
        }
        CHECKS.due("make(" + h + ") of " + hours, Checks.laid(text + "p0;").make(h), want);
    }

    private static void makeOfOneToSix() {
        CHECKS.promise("MAKE: one at least, six at most");
        for (int many = 1; many <= 6; many++) {
            made("1 1 1 1 1 1", many, (1 << many) - 1);
        }
        made("1 1 1 1 1 1", 7, NONE);
        made("1 1 1 1 1 1", 0, NONE);
        made("4 4 4 4 4 4", 0, 63);
        made("0", 0, 1);
        made("23", 0, NONE);
        made("23", 23, 1);
        made("5 0", 0, 2);
        made("5 0", 5, 1);
        made("0 5", 5, 2);
        made("0 0 0 0 0 0", 0, 1);
        made("0 0 0 0 0 0", 1, NONE);
    }

    private static void makeRoundTheDial() {
        CHECKS.promise("MAKE: modulo 24");
        made("12 12", 0, 3);
        made("23 1", 0, 3);
        made("23 2", 1, 3);
        made("23 23 23 23 23 23", 22, 3);
        made("23 23 23 23 23 23", 18, 63);
        made("23 23 23 23 23 23", 17, NONE);
        made("22 22 22 22 22 22", 12, 63);
        ParasolHours x = Checks.laid("u0,22,0;u3,10,0;p0;p0;");
        x.take(0, 0);
        x.pass(1);
        CHECKS.due("make(23): as it is told now", x.make(23), 1);
        CHECKS.due("make(22)", x.make(22), NONE);
        CHECKS.due("make(9)", x.make(9), 3);
    }

    private static void makeOfSeveral() {
        CHECKS.promise("MAKE: fewest, then the lowest as bits");
        made("1 2 3 1 2 3", 3, 4);
        made("1 2 4 1 2 4", 3, 3);
        made("4 2 1 4 2 1", 3, 6);
        made("1 4 2 4 1 2", 3, 5);
        made("1 1 4 2 2 4", 3, 9);
        made("1 1 2 4 8 6", 4, 8);
        made("2 2 1 1 4 6", 7, 36);
        made("2 2 1 1 4 9", 7, 21);
        made("1 2 4 8 16 7", 7, 32);
        made("7 2 4 8 16 1", 7, 1);
        made("1 2 4 8 16 0", 7, 7);
        made("1 2 4 8 16 0", 0, 32);
        made("1 2 4 8 16 0", 21, 21);
        made("1 2 4 8 16 8", 0, 24);
    }

    private static void stillBehind() {
        CHECKS.promise("STILL: behind 0 to 48 HOURS");
        for (int worn = 0; worn <= 12; worn++) {
            ParasolHours x = Checks.laid("q2;u0,0," + worn + ";u1,0," + worn + ";p0;p0;p1;p0;");
            x.take(0, 0);
            x.walk(0, 0);
            x.take(1, 1);
            x.walk(1, 0);
            String before = Checks.picture(x);
            int silk = 14 - worn;
            int black = 2 * (13 - worn);
            for (int n = 0; n <= 48; n++) {
                int want = (n >= 1 ? 4 : 0) + (n >= silk ? 1 : 0) + (n >= black ? 2 : 0);
                CHECKS.due("still(" + n + ") by " + worn, x.still(n), want);
            }
            CHECKS.due("still(49)", x.still(49), BAD);
            CHECKS.holds("nothing changes", Checks.picture(x).equals(before));
            x.pass(20);
            CHECKS.due("still(0)", x.still(0), (20 >= black ? 2 : 0) + 5);
        }
    }

    private static void stillOfNobodyAndAll() {
        CHECKS.promise("STILL: nobody, all");
        ParasolHours x = Checks.laid("q2;u0,0,0;p0;p0;p0;p0;p0;");
        CHECKS.due("still(48)", x.still(48), 0);
        x = Checks.laid("q2;u0,0,0;p1;p1;p1;p1;p1;");
        CHECKS.due("still(0)", x.still(0), 0);
        CHECKS.due("still(1)", x.still(1), 31);
        x.pass(1);
        CHECKS.due("still(0)", x.still(0), 31);
        CHECKS.due("still(48)", x.still(48), 31);
        x = Checks.laid("q2;u0,0,12;p0;p0;p0;p0;p1;");
        x.take(1, 0);
        x.share(3, 1);
        x.walk(1, 0);
        CHECKS.due("still(1)", x.still(1), 16);
        CHECKS.due("still(2)", x.still(2), 26);
    }

    private static void soonestByWorn() {
        CHECKS.promise("SOONEST: WORN by 12 or less still at UNTIL of its HOUR");
        for (int worn = 0; worn <= 12; worn++) {
            StringBuilder text = new StringBuilder("q3;u0,5," + worn + ";p0;");
            int left = 12 - worn;
            text.append("w1,").append(5 + left).append(";w1,").append(6 + left).append(";w2,5;w2,4;");
            ParasolHours x = Checks.laid(text.toString());
            x.take(0, 0);
            CHECKS.soonest(x, 0, 0, left);
            CHECKS.soonest(x, 1, NONE, NONE);
            CHECKS.soonest(x, 2, 0, 0);
            CHECKS.soonest(x, 3, NONE, NONE);
        }
        // It goes round the dial, and is WORN by 12 at last.
        ParasolHours x = Checks.laid("q3;u3,23,0;u1,23,1;p0;p0;w1,22;w2,23;w2,20;w2,0;w2,1;w2,21;");
        x.take(0, 0);
        CHECKS.soonest(x, 0, NONE, NONE);
        CHECKS.soonest(x, 1, 0, 0);
        CHECKS.soonest(x, 2, NONE, NONE);
        CHECKS.soonest(x, 4, 0, 1);
        CHECKS.soonest(x, 5, 0, 11);
        x.take(1, 1);
        CHECKS.soonest(x, 0, NONE, NONE);
        CHECKS.soonest(x, 2, 1, 21);
        CHECKS.soonest(x, 3, 1, 1);
        CHECKS.soonest(x, 5, 0, 11);
        x.give(0);
        CHECKS.soonest(x, 5, 1, 22);
    }

    private static void soonestByBlack() {
        CHECKS.promise("SOONEST: BLACK and LACE in even HOURS");
        for (int gone = 0; gone < 2; gone++) {
            ParasolHours x = Checks.laid("q3;u1,5,10;u2,5,10;p0;p0;w1,9;w1,10;w1,8;w1,6;w1,7;w2,5;");
            if (gone == 1) {
                x.pass(1);
            }
            x.take(0, 0);
            CHECKS.soonest(x, 0, 0, 4);
            // Five HOURS from an even one on have three even ones; from an odd one on, two.
            CHECKS.soonest(x, 1, gone == 1 ? 0 : NONE, gone == 1 ? 5 : NONE);
            x.give(0);
            x.take(1, 1);
            CHECKS.soonest(x, 5, 1, 0);
            CHECKS.soonest(x, 3, 1, 1 + gone);
            CHECKS.soonest(x, 4, NONE, NONE);
            CHECKS.soonest(x, 2, NONE, NONE);
        }
    }

    private static void soonestTies() {
        CHECKS.promise("SOONEST: least, of several the lowest");
        ParasolHours x = Checks.laid("q3;u0,5,0;u0,5,0;u3,3,0;u0,6,0;p0;p0;p0;p0;p0;w1,7;w1,5;");
        x.take(4, 0);
        x.take(3, 1);
        CHECKS.soonest(x, 0, 3, 2);
        x.share(2, 4);
        CHECKS.soonest(x, 0, 2, 2);
        x.take(1, 2);
        CHECKS.soonest(x, 0, 1, 2);
        CHECKS.soonest(x, 1, 2, 0);
        x.take(0, 3);
        CHECKS.soonest(x, 0, 0, 1);
        CHECKS.soonest(x, 1, 2, 0);
        x.undo();
        x.give(1);
        x.share(1, 3);
        CHECKS.soonest(x, 0, 1, 2);
    }

    private static void soonestOfStill() {
        CHECKS.promise("SOONEST: who is not STILL, under a PARASOL");
        ParasolHours x = Checks.laid("q3;u0,5,12;u0,9,0;p0;p0;p1;p0;w2,7;w2,5;w2,12;");
        CHECKS.soonest(x, 2, NONE, NONE);
        x.take(0, 0);
        CHECKS.soonest(x, 1, 0, 0);
        x.walk(0, 0);
        x.pass(2);
        CHECKS.due("parasol(0, 1)", x.parasol(0, 1), 7);
        CHECKS.soonest(x, 0, NONE, NONE);
        // One that is woken under a WORN one can't either.
        x.share(2, 0);
        CHECKS.due("person(2, 3)", x.person(2, 3), 0);
        CHECKS.soonest(x, 0, NONE, NONE);
        x.take(3, 1);
        CHECKS.soonest(x, 2, 3, 3);
        // Who is STILL does not count, though its PARASOL be as good as new.
        x.walk(3, 0);
        x.give(2);
        x.share(2, 3);
        x.give(3);
        x.pass(1);
        CHECKS.due("person(3, 3)", x.person(3, 3), 1);
        CHECKS.soonest(x, 2, 2, 2);
    }

    private static void soonestNone() {
        CHECKS.promise("SOONEST: none; NO");
        ParasolHours x = Checks.laid("q3;u0,5,0;p0;w0,5;w0,4;");
        CHECKS.soonest(x, 0, NONE, NONE);
        x.take(0, 0);
        CHECKS.soonest(x, 0, 0, 0);
        x.pass(1);
        CHECKS.soonest(x, 0, NO, NO);
        CHECKS.soonest(x, 1, NONE, NONE);
        x.undo();
        CHECKS.soonest(x, 0, 0, 0);
        CHECKS.due("soonest(2, 0)", x.soonest(2, 0), BAD);
    }
}
