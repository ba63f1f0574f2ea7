/** Promises 16 to 21: what is asked of the hours to come. */
public final class HoursTest {
    private static final int BAD = ParasolHours.BAD, NO = ParasolHours.NO, NONE = ParasolHours.NONE;
    private static final Checks CHECKS = new Checks("HoursTest");

    public static void main(String[] args) {
        until();
        untilFromOddHours();
        agree();
        deal();
        dealTies();
        dealOfWornAndStill();
        dealLarge();
        make();
        still();
        soonest();
        soonestWornOut();
        nothingChanges();
        CHECKS.end();
    }

    private static void until() {
        CHECKS.promise("16 until");
        ParasolHours x = Checks.laid("q3;u0,10,12;u1,10,0;u2,10,0;u3,10,0;u3,9,0;p0;");
        for (int h = 0; h < 24; h++) {
            int ahead = (h + 14) % 24;
            CHECKS.due("until(0, " + h + ")", x.until(0, h), ahead);
            CHECKS.due("until(1, " + h + ")", x.until(1, h), ahead);
            CHECKS.due("until(2, " + h + ")", x.until(2, h), ahead == 0 ? 0 : 2 * ahead - 1);
            CHECKS.due("until(3, " + h + ")", x.until(3, h), ahead % 2 == 0 ? ahead / 2 : NONE);
            int aheadOfNine = (h + 15) % 24;
            CHECKS.due("until(4, " + h + ")", x.until(4, h), aheadOfNine % 2 == 0 ? aheadOfNine / 2 : NONE);
        }
        CHECKS.due("until(5, 0)", x.until(5, 0), BAD);
        CHECKS.due("until(-1, 0)", x.until(-1, 0), BAD);
        CHECKS.due("until(0, -1)", x.until(0, -1), BAD);
        CHECKS.due("until(0, 24)", x.until(0, 24), BAD);
    }

    private static void untilFromOddHours() {
        CHECKS.promise("16 until: from an odd HOUR on");
        ParasolHours x = Checks.laid("q3;u2,10,0;u0,10,0;p0;");
        x.pass(1);
        for (int h = 0; h < 24; h++) {
            CHECKS.due("until(0, " + h + ")", x.until(0, h), 2 * ((h + 14) % 24));
            CHECKS.due("until(1, " + h + ")", x.until(1, h), (h + 14) % 24);
        }
    }

    private static void agree() {
        CHECKS.promise("17 agree");
        ParasolHours x = Checks.laid("q3;u0,10,0;u3,5,0;u2,12,0;u2,9,0;u3,4,0;u1,10,12;p0;");
        CHECKS.due("agree(0, 5)", x.agree(0, 5), 0);
        CHECKS.due("agree(0, 1)", x.agree(0, 1), 5);
        CHECKS.due("agree(1, 0)", x.agree(1, 0), 5);
        CHECKS.due("agree(4, 0)", x.agree(4, 0), 6);
        CHECKS.due("agree(1, 4)", x.agree(1, 4), NONE);
        CHECKS.due("agree(2, 3)", x.agree(2, 3), NONE);
        // A SILK one gains one on a LACE one in each odd HOUR.
        CHECKS.due("agree(0, 2)", x.agree(0, 2), 4);
        CHECKS.due("agree(0, 3)", x.agree(0, 3), 46);
        x.pass(1);
        CHECKS.due("agree(0, 2) from HOUR 1", x.agree(0, 2), 3);
        CHECKS.due("agree(0, 3) from HOUR 1", x.agree(0, 3), 45);
        CHECKS.due("agree(0, 0)", x.agree(0, 0), BAD);
        CHECKS.due("agree(5, 5)", x.agree(5, 5), BAD);
        CHECKS.due("agree(6, 0)", x.agree(6, 0), BAD);
        CHECKS.due("agree(0, 6)", x.agree(0, 6), BAD);
        CHECKS.due("agree(-1, 0)", x.agree(-1, 0), BAD);
        CHECKS.due("agree(0, -1)", x.agree(0, -1), BAD);
    }

    private static void deal() {
        CHECKS.promise("18 deal");
        // Each of two could do the work of the other's parasol too; only one way does both.
        ParasolHours x = Checks.laid("q3;u0,5,0;u0,6,0;p1;p2;w1,5;w1,6;w2,5;");
        CHECKS.dealt(x, 2, 1, 0);
        // Nobody has to be near: PARASOLS are dealt wherever they are.
        x = Checks.laid("q3;u0,5,0;u0,6,0;p0;p2;w2,6;");
        x.take(0, 1);
        CHECKS.dealt(x, 1, 0, 1);
        // Under none it is NOON but on SQUARE 0.
        x = Checks.laid("q3;u0,12,0;u0,6,0;p0;p2;w0,12;w2,12;");
        CHECKS.dealt(x, 2, 0, NONE);
        // One PARASOL is for one PERSON alone, though two may be under it.
        x = Checks.laid("q3;u0,5,0;p1;p2;w1,5;w2,5;");
        CHECKS.dealt(x, 1, 0, NONE);
        // Two of one HOUR in one SQUARE are done at one time.
        x = Checks.laid("q3;u0,4,0;u0,5,0;p1;w1,5;w1,5;w1,4;");
        CHECKS.dealt(x, 2, 1);
        x.walk(0, 1);
        CHECKS.dealt(x, 0, 0);
    }

    private static void dealTies() {
        CHECKS.promise("18 deal: of several the first");
        CHECKS.dealt(Checks.laid("q3;u0,4,0;u0,5,0;p1;p1;p1;"), 0, 0, 1, NONE);
        CHECKS.dealt(Checks.laid("q3;u0,4,0;u0,4,0;p1;p1;w1,4;"), 1, 0, 1);
        CHECKS.dealt(Checks.laid("q3;u0,4,0;u0,5,0;u0,6,0;p1;p1;w1,6;"), 1, 0, 2);
        CHECKS.dealt(Checks.laid("q3;u0,4,0;u0,5,0;u0,6,0;p1;p1;w1,6;w1,5;"), 2, 1, 2);
        CHECKS.dealt(Checks.laid("q3;u0,4,0;p1;p1;p1;w1,12;"), 1, 0, NONE, NONE);
        CHECKS.dealt(Checks.laid("q3;u0,4,0;p1;w1,12;"), 1, NONE);
        CHECKS.dealt(Checks.laid("q3;u0,12,0;p1;w1,12;"), 1, 0);
    }

    private static void dealOfWornAndStill() {
        CHECKS.promise("18 deal: WORN, STILL, done");
        ParasolHours x = Checks.laid("q3;u0,5,12;u0,6,0;p0;p1;p0;w1,7;w0,6;w2,12;w0,12;w1,12;");
        CHECKS.dealt(x, 2, 0, NONE, 1);
        x.take(0, 0);
        x.pass(1);
        // Person 1 is STILL and has done the work 4; parasol 0 is worn by 13: it is 12 under it.
        CHECKS.due("count(5)", x.count(5), 1);
        CHECKS.due("parasol(0, 2)", x.parasol(0, 2), 13);
        CHECKS.dealt(x, 2, 0, NONE, 1);
        x.pass(1);
        CHECKS.due("work(3, 2)", x.work(3, 2), 1);
        CHECKS.dealt(x, 1, 0, NONE, 1);
        // STILL under one: another may have it.
        x = Checks.laid("q3;u0,5,12;p0;p0;p0;p2;w2,12;w1,7;w0,12;");
        x.take(0, 0);
        x.walk(0, 0);
        x.pass(2);
        CHECKS.due("count(7)", x.count(7), 2);
        CHECKS.due("count(5)", x.count(5), 1);
        CHECKS.dealt(x, 1, NONE, 0, NONE, NONE);
        x = Checks.laid("q3;u0,5,0;p1;p1;w1,5;");
        x.pass(1);
        CHECKS.dealt(x, 0, NONE, NONE);
    }

    private static void dealLarge() {
        CHECKS.promise("18 deal: five and six");
        ParasolHours x = Checks.laid("q6;u0,1,0;u0,2,0;u0,3,0;u0,4,0;u0,5,0;u0,6,0;"
            + "p1;p2;p3;p4;p5;w1,6;w2,5;w3,4;w4,3;w5,2;w1,1;");
        CHECKS.dealt(x, 5, 0, 4, 3, 2, 1);
        x = Checks.laid("q6;u0,1,0;u0,2,0;u0,3,0;u0,4,0;u0,5,0;u0,6,0;"
            + "p1;p1;p1;p1;p1;w1,6;w1,5;w1,4;w1,3;w1,12;w0,1;");
        CHECKS.dealt(x, 5, 2, 3, 4, 5, NONE);
        x = Checks.laid("q6;u0,1,0;u0,2,0;u0,3,0;u0,4,0;u0,5,0;u0,6,0;p5;p5;p5;p5;p5;w5,1;");
        CHECKS.dealt(x, 1, 0, 1, 2, 3, 4);
        // The last one alone can do it, by the PARASOL, or under none, that comes last or first.
        x = Checks.laid("q6;u0,1,0;u0,2,0;u0,3,0;u0,4,0;u0,5,0;u0,6,0;p5;p5;p5;p5;p4;w4,1;");
        CHECKS.dealt(x, 1, 1, 2, 3, 4, 0);
        x = Checks.laid("q6;u0,1,0;u0,2,0;u0,3,0;u0,4,0;u0,5,0;u0,6,0;p5;p5;p5;p5;p4;w4,6;");
        CHECKS.dealt(x, 1, 0, 1, 2, 3, 5);
        x = Checks.laid("q6;u0,1,0;u0,2,0;u0,3,0;u0,4,0;u0,5,0;u0,6,0;p5;p5;p5;p5;p4;w4,12;");
        CHECKS.dealt(x, 1, 0, 1, 2, 3, ParasolHours.NONE);
    }

    private static void make() {
        CHECKS.promise("19 make");
        ParasolHours x = Checks.laid("q3;u0,3,0;u0,5,0;u0,5,0;u0,8,0;u0,23,0;u0,0,0;p0;");
        CHECKS.due("make(5): the lowest", x.make(5), 2);
        CHECKS.due("make(8): one ahead of two", x.make(8), 8);
        CHECKS.due("make(0): one at least", x.make(0), 32);
        CHECKS.due("make(23)", x.make(23), 16);
        CHECKS.due("make(2): 3 and 23", x.make(2), 17);
        CHECKS.due("make(10): 5 and 5", x.make(10), 6);
        CHECKS.due("make(13): 5 and 8", x.make(13), 10);
        CHECKS.due("make(18): 5, 5 and 8", x.make(18), 14);
        CHECKS.due("make(15): 3, 5, 8 and 23", x.make(15), 27);
        CHECKS.due("make(20): 5, 5, 8, 3 and 23", x.make(20), 31);
        CHECKS.due("make(14)", x.make(14), NONE);
        CHECKS.due("make(-1)", x.make(-1), BAD);
        CHECKS.due("make(24)", x.make(24), BAD);
        x.take(0, 0);
        x.walk(0, 0);
        x.pass(3);
        CHECKS.due("make(6): as it is now", x.make(6), 1);
        ParasolHours one = Checks.laid("q3;u0,0,0;p0;");
        CHECKS.due("make(0)", one.make(0), 1);
        CHECKS.due("make(1)", one.make(1), NONE);
        ParasolHours halves = Checks.laid("q3;u0,12,0;u0,12,0;p0;");
        CHECKS.due("make(0)", halves.make(0), 3);
        CHECKS.due("make(12)", halves.make(12), 1);
    }

    private static void still() {
        CHECKS.promise("20 still");
        ParasolHours x = Checks.laid("q3;u0,5,11;u1,5,10;p0;p0;p0;p2;");
        x.take(0, 0);
        x.walk(0, 0);
        x.take(1, 1);
        x.walk(1, 0);
        int[] wants = {0, 8, 8, 9, 9, 9, 11, 11};
        for (int n = 0; n < wants.length; n++) {
            CHECKS.due("still(" + n + ")", x.still(n), wants[n]);
        }
        CHECKS.due("still(48)", x.still(48), 11);
        CHECKS.due("still(49)", x.still(49), BAD);
        CHECKS.due("still(-1)", x.still(-1), BAD);
        x.pass(3);
        CHECKS.due("still(0)", x.still(0), 9);
        CHECKS.due("still(2)", x.still(2), 9);
        CHECKS.due("still(3)", x.still(3), 11);
        x.share(3, 3);
        x.walk(1, 0);
        x.share(3, 1);
        CHECKS.due("still(0): no more", x.still(0), 1);
        CHECKS.due("still(3)", x.still(3), 11);
    }

    private static void soonest() {
        CHECKS.promise("21 soonest");
        ParasolHours x = Checks.laid("q3;u0,5,0;u3,1,0;u0,5,0;p0;p0;p0;p0;p2;w1,7;w2,9;w0,14;w2,12;w1,5;w0,4;");
        CHECKS.soonest(x, 0, NONE, NONE);
        x.take(0, 0);
        x.take(1, 1);
        x.take(2, 2);
        x.share(3, 0);
        CHECKS.soonest(x, 0, 0, 2);
        CHECKS.soonest(x, 1, 0, 4);
        CHECKS.soonest(x, 2, 0, 9);
        CHECKS.soonest(x, 3, 0, 7);
        CHECKS.soonest(x, 4, 0, 0);
        CHECKS.soonest(x, 5, NONE, NONE);
        x.undo();
        x.give(0);
        x.give(2);
        CHECKS.soonest(x, 0, 1, 3);
        CHECKS.soonest(x, 1, 1, 4);
        x.take(3, 0);
        CHECKS.soonest(x, 0, 3, 2);
        CHECKS.soonest(x, 1, 1, 4);
        x.pass(1);
        CHECKS.due("soonest of one that is done", x.soonest(3, 0), NO);
        CHECKS.due("soonest of one that is done", x.soonest(3, 1), NO);
        CHECKS.due("soonest(3, 2)", x.soonest(3, 2), BAD);
        CHECKS.due("soonest(0, 2)", x.soonest(0, 2), BAD);
        CHECKS.due("soonest(0, -1)", x.soonest(0, -1), BAD);
        CHECKS.due("soonest(6, 0)", x.soonest(6, 0), BAD);
        CHECKS.due("soonest(-1, 0)", x.soonest(-1, 0), BAD);
    }

    private static void soonestWornOut() {
        CHECKS.promise("21 soonest: WORN, STILL");
        ParasolHours x = Checks.laid("q3;u0,5,10;u1,4,9;p0;p0;w1,7;w1,8;w1,9;w1,10;w1,5;w1,11;");
        x.take(0, 0);
        x.take(1, 1);
        CHECKS.soonest(x, 0, 0, 2);
        CHECKS.soonest(x, 1, 1, 4);
        CHECKS.soonest(x, 2, 1, 5);
        CHECKS.soonest(x, 3, 1, 6);
        CHECKS.soonest(x, 5, NONE, NONE);
        x.walk(0, 0);
        x.pass(3);
        CHECKS.soonest(x, 2, 1, 2);
        CHECKS.soonest(x, 1, 1, 1);
        CHECKS.due("work(4, 2)", x.work(4, 2), 1);
        x.pass(1);
        CHECKS.due("person(0, 3)", x.person(0, 3), 1);
        // The next is UNTIL 0 for one that is STILL, whose PARASOL is WORN.
        CHECKS.due("until(0, 9)", x.until(0, 9), 0);
        CHECKS.soonest(x, 2, 1, 1);
        stillUnderAGoodOne();
    }

    private static void stillUnderAGoodOne() {
        ParasolHours x = Checks.laid("q3;u0,5,12;u0,3,0;p0;p0;p1;w2,5;w2,6;");
        x.take(0, 0);
        CHECKS.soonest(x, 0, 0, 0);
        CHECKS.soonest(x, 1, NONE, NONE);
        x.walk(0, 0);
        x.pass(2);
        x.walk(1, 0);
        CHECKS.due("count(7)", x.count(7), 2);
        CHECKS.soonest(x, 0, NONE, NONE);
    }

    private static void nothingChanges() {
        CHECKS.promise("16 to 21: nothing changes");
        ParasolHours x = Checks.laid(Checks.FIRST);
        x.take(0, 2);
        x.walk(0, 0);
        x.pass(3);
        x.see(9, 4);
        x.keep();
        String before = Checks.picture(x);
        for (int i = -1; i < 6; i++) {
            x.until(i, 3);
            x.agree(i, 2);
            x.deal(i);
            x.make(i);
            x.still(8 * i);
            x.soonest(i, 0);
            CHECKS.holds("as it was", Checks.picture(x).equals(before));
        }
        x.until(2, 3);
        CHECKS.due("undo()", x.undo(), 2);
    }
}
