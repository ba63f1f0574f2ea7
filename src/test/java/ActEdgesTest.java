/** The boundary cases of Terms 2, sentence by sentence: SHADE, TIME, what an HOUR does, acts, UNDONE. */
public final class ActEdgesTest {
    private static final int BAD = ParasolHours.BAD, NO = ParasolHours.NO, NONE = ParasolHours.NONE;
    private static final Checks CHECKS = new Checks("ActEdgesTest");

    public static void main(String[] args) {
        shadeAndTimeOn1();
        shadeAndTimeOn0();
        turnsRoundTheDial();
        turnsOnlyUnderSomebody();
        evenHoursAreOfAll();
        evenHoursAreUndone();
        wornBy20AtMost();
        wornInTheLastHourOfShade();
        worksAheadOfAppointmentsAndStill();
        worksByTheHourAheadOfItsEnd();
        worksOfSix();
        appointmentsOfFive();
        appointmentsWhere();
        stillOfFive();
        takeOfTheLast();
        takeAgain();
        shareOfTwo();
        shareOnEachSquare();
        giveOnEachSquare();
        walkFromEndToEnd();
        walkOfBoth();
        mendOfEach();
        passLeastAndMost();
        undoneIsTheLatest();
        undoneOfPass();
        undoneBeyond8();
        undoneThroughStill();
        CHECKS.end();
    }

    private static void person(ParasolHours x, int p, int... wants) {
        for (int what = 0; what < wants.length; what++) {
            CHECKS.due("person(" + p + ", " + what + ")", x.person(p, what), wants[what]);
        }
    }

    private static void done(ParasolHours x, int... wants) {
        int sum = 0;
        for (int w = 0; w < wants.length; w++) {
            CHECKS.due("work(" + w + ", 2)", x.work(w, 2), wants[w]);
            sum += wants[w];
        }
        CHECKS.due("count(5)", x.count(5), sum);
    }

    private static void shadeAndTimeOn1() {
        CHECKS.promise("SHADE, TIME: by 12 or less, off SQUARE 0");
        for (int worn = 0; worn <= 12; worn++) {
            ParasolHours x = Checks.laid("q3;u0,7," + worn + ";p0;p1;");
            x.take(0, 0);
            x.walk(0, 0);
            person(x, 0, 1, 0, 7, 0, 1);
            person(x, 1, 1, NONE, 12, 0, 0);
            for (int more = 1; worn + more <= 14; more++) {
                x.pass(1);
                boolean shade = worn + more <= 12;
                // STILL comes in the HOUR at whose beginning there is no SHADE.
                boolean still = worn + more > 13;
                person(x, 0, 1, 0, shade ? 7 + more : 12, still ? 1 : 0, shade ? 1 : 0);
            }
        }
    }

    private static void shadeAndTimeOn0() {
        CHECKS.promise("SHADE, TIME: on SQUARE 0");
        ParasolHours x = Checks.laid("q3;u0,7,12;u0,8,11;p0;p0;p0;");
        x.take(0, 0);
        x.take(1, 1);
        person(x, 0, 0, 0, 7, 0, 1);
        person(x, 1, 0, 1, 8, 0, 1);
        person(x, 2, 0, NONE, NONE, 0, 1);
        x.pass(1);
        person(x, 0, 0, 0, 12, 0, 1);
        person(x, 1, 0, 1, 9, 0, 1);
        person(x, 2, 0, NONE, NONE, 0, 1);
        x.pass(1);
        person(x, 0, 0, 0, 12, 0, 1);
        person(x, 1, 0, 1, 12, 0, 1);
        x.pass(24);
        person(x, 0, 0, 0, 12, 0, 1);
        person(x, 2, 0, NONE, NONE, 0, 1);
        CHECKS.due("count(7): on SQUARE 0 nobody is STILL", x.count(7), 0);
        x.give(0);
        person(x, 0, 0, NONE, NONE, 0, 1);
    }

    /** From each HOUR on, of each KIND, a day and more long. */
    private static void turnsRoundTheDial() {
        CHECKS.promise("23 and 1 is 0");
        for (int first = 0; first < 24; first++) {
            ParasolHours x = Checks.laid("q3;u0," + first + ",0;u1," + first + ",0;u2," + first + ",0;u3," + first
                + ",0;p0;p0;p0;p0;");
            for (int u = 0; u < 4; u++) {
                x.take(u, u);
            }
            for (int gone = 1; gone <= 50; gone++) {
                CHECKS.due("pass(1)", x.pass(1), gone);
                CHECKS.due("SILK from " + first, x.parasol(0, 1), (first + gone) % 24);
                CHECKS.due("BLACK from " + first, x.parasol(1, 1), (first + gone) % 24);
                CHECKS.due("LACE from " + first, x.parasol(2, 1), (first + (gone + 1) / 2) % 24);
                CHECKS.due("PAPER from " + first, x.parasol(3, 1), (first + 2 * gone) % 24);
            }
        }
    }

    private static void turnsOnlyUnderSomebody() {
        CHECKS.promise("with anybody under it");
        ParasolHours x = Checks.laid("q3;u0,23,5;u1,23,5;u2,23,5;u3,23,5;u0,23,5;u0,23,5;p0;p1;p0;");
        x.take(0, 5);
        x.pass(2);
        for (int u = 0; u < 5; u++) {
            CHECKS.due("parasol(" + u + ", 1) in the STAND", x.parasol(u, 1), 23);
            CHECKS.due("parasol(" + u + ", 2) in the STAND", x.parasol(u, 2), 5);
        }
        CHECKS.due("parasol(5, 1)", x.parasol(5, 1), 1);
        // Two under it are no more than one; one that is STILL is as anybody.
        x.share(2, 0);
        x.pass(1);
        CHECKS.due("parasol(5, 1) over two", x.parasol(5, 1), 2);
        CHECKS.due("parasol(5, 2) over two", x.parasol(5, 2), 8);
        x.walk(0, 0);
        x.pass(6);
        CHECKS.due("count(7)", x.count(7), 3);
        x.pass(1);
        CHECKS.due("parasol(5, 1) over two that are STILL", x.parasol(5, 1), 9);
        CHECKS.due("parasol(5, 2) over two that are STILL", x.parasol(5, 2), 15);
    }

    private static void evenHoursAreOfAll() {
        CHECKS.promise("even HOURS: 0 is the first one of all");
        for (int ahead = 0; ahead <= 25; ahead++) {
            ParasolHours x = Checks.laid("q3;u2,10,0;u1,10,0;p0;p0;");
            if (ahead > 0) {
                x.pass(Math.min(24, ahead));
            }
            if (ahead > 24) {
                x.pass(ahead - 24);
            }
            x.take(0, 0);
            x.take(1, 1);
            x.pass(1);
            int even = ahead % 2 == 0 ? 1 : 0;
            CHECKS.due("LACE in HOUR " + ahead, x.parasol(0, 1), 10 + even);
            CHECKS.due("LACE is WORN in HOUR " + ahead, x.parasol(0, 2), 1);
            CHECKS.due("BLACK in HOUR " + ahead, x.parasol(1, 1), 11);
            CHECKS.due("BLACK is WORN in HOUR " + ahead, x.parasol(1, 2), even);
            x.pass(1);
            CHECKS.due("LACE in two HOURS", x.parasol(0, 1), 11);
            CHECKS.due("BLACK is WORN in two HOURS", x.parasol(1, 2), 1);
        }
    }

    private static void evenHoursAreUndone() {
        CHECKS.promise("even HOURS: undone, brought back, laid");
        ParasolHours x = Checks.laid("q3;u2,10,0;p0;");
        x.take(0, 0);
        x.pass(1);
        CHECKS.due("until(0, 12) from an odd HOUR", x.until(0, 12), 2);
        x.undo();
        CHECKS.due("until(0, 12) from an even HOUR", x.until(0, 12), 3);
        x.keep();
        x.pass(3);
        CHECKS.due("until(0, 13) from an odd HOUR", x.until(0, 13), 2);
        x.back();
        CHECKS.due("until(0, 12) from an even HOUR", x.until(0, 12), 3);
        x.pass(1);
        Checks.write(x, "q3;u2,10,0;p0;");
        x.lay();
        x.take(0, 0);
        CHECKS.due("pass(1)", x.pass(1), 1);
        CHECKS.due("parasol(0, 1) in HOUR 0 again", x.parasol(0, 1), 11);
    }

    private static void wornBy20AtMost() {
        CHECKS.promise("WORN by 20 at most");
        ParasolHours x = Checks.laid("q3;u0,0,12;u1,0,12;u2,0,12;u3,0,12;u0,0,0;u0,0,12;p0;p0;p0;p0;p0;");
        for (int u = 0; u < 5; u++) {
            x.take(u, u);
        }
        for (int gone = 1; gone <= 30; gone++) {
            x.pass(1);
            CHECKS.due("SILK behind " + gone, x.parasol(0, 2), Math.min(20, 12 + gone));
            CHECKS.due("BLACK behind " + gone, x.parasol(1, 2), Math.min(20, 12 + (gone + 1) / 2));
            CHECKS.due("LACE behind " + gone, x.parasol(2, 2), Math.min(20, 12 + gone));
            CHECKS.due("PAPER behind " + gone, x.parasol(3, 2), Math.min(20, 12 + gone));
            CHECKS.due("SILK from 0 behind " + gone, x.parasol(4, 2), Math.min(20, gone));
            CHECKS.due("in the STAND", x.parasol(5, 2), 12);
        }
        x.give(0);
        CHECKS.due("mend(0): from 20", x.mend(0), 20);
        x.take(0, 0);
        x.pass(1);
        CHECKS.due("parasol(0, 2)", x.parasol(0, 2), 1);
        // Its HOUR goes on however WORN it is.
        CHECKS.due("parasol(3, 1)", x.parasol(3, 1), 62 % 24);
    }

    private static void wornInTheLastHourOfShade() {
        CHECKS.promise("each PERSON without SHADE: ahead of being WORN more");
        ParasolHours x = Checks.laid("q3;u0,5,12;u1,5,12;p0;p0;w1,5;w2,5;w1,12;");
        x.take(0, 0);
        x.walk(0, 0);
        x.take(1, 1);
        x.walk(1, 0);
        x.walk(1, 0);
        x.pass(1);
        CHECKS.due("count(7)", x.count(7), 0);
        done(x, 1, 1, 0);
        CHECKS.due("parasol(0, 2)", x.parasol(0, 2), 13);
        CHECKS.due("parasol(1, 2)", x.parasol(1, 2), 13);
        x.pass(1);
        CHECKS.due("count(7)", x.count(7), 2);
        done(x, 1, 1, 1);
        // BLACK from 12 in an odd HOUR: one HOUR of SHADE more.
        x = Checks.laid("q3;u0,5,12;u1,5,12;p0;p0;");
        x.pass(1);
        x.take(0, 0);
        x.walk(0, 0);
        x.take(1, 1);
        x.walk(1, 0);
        x.pass(2);
        person(x, 0, 1, 0, 12, 1, 0);
        person(x, 1, 1, 1, 12, 0, 0);
        x.pass(1);
        person(x, 1, 1, 1, 12, 1, 0);
    }

    private static void worksAheadOfAppointmentsAndStill() {
        CHECKS.promise("in this order: works ahead of STILL");
        ParasolHours x = Checks.laid("q3;u0,0,0;p1;p2;w1,12;w2,12;w2,12;w2,11;");
        x.pass(1);
        done(x, 1, 1, 1, 0);
        CHECKS.due("count(7)", x.count(7), 2);
        // A WORK that is done stays so, and is counted once.
        x.pass(24);
        done(x, 1, 1, 1, 0);
    }

    private static void worksByTheHourAheadOfItsEnd() {
        CHECKS.promise("in this order: works ahead of the HOUR that is 1 more");
        ParasolHours x = Checks.laid("q3;u3,23,0;p0;w1,23;w1,0;w1,1;w1,3;w1,5;");
        x.take(0, 0);
        x.walk(0, 0);
        x.pass(1);
        done(x, 1, 0, 0, 0, 0);
        x.pass(1);
        done(x, 1, 0, 1, 0, 0);
        x.undo();
        x.undo();
        done(x, 0, 0, 0, 0, 0);
        x.pass(3);
        done(x, 1, 0, 1, 1, 0);
        x.pass(1);
        done(x, 1, 0, 1, 1, 1);
    }

    private static void worksOfSix() {
        CHECKS.promise("each WORK: six, by five");
        ParasolHours x = Checks.laid("q6;u0,9,0;u0,9,0;u0,9,0;u0,9,0;u0,9,0;u0,9,0;"
            + "p0;p0;p0;p0;p0;w5,9;w4,9;w3,9;w2,9;w1,9;w1,9;");
        for (int p = 0; p < 5; p++) {
            x.take(p, 5 - p);
            for (int i = 0; i <= p; i++) {
                x.walk(p, 0);
            }
        }
        x.pass(1);
        done(x, 1, 1, 1, 1, 1, 1);
        CHECKS.due("count(6): on five SQUARES", x.count(6), 0);
        // On the next SQUARE, or an HOUR too late or too soon, it is not done.
        x = Checks.laid("q3;u0,9,0;p0;w0,9;w2,9;w1,8;w1,10;");
        x.take(0, 0);
        x.walk(0, 0);
        x.pass(1);
        done(x, 0, 0, 0, 0);
        x.pass(1);
        done(x, 0, 0, 0, 1);
        // Two under one PARASOL do it as one.
        x = Checks.laid("q3;u0,9,0;p0;p0;w1,9;w1,9;");
        x.take(1, 0);
        x.share(0, 1);
        x.walk(0, 0);
        x.pass(1);
        done(x, 1, 1);
    }

    private static void appointmentsOfFive() {
        CHECKS.promise("each two PARASOLS");
        int[] pairs = {0, 0, 1, 3, 6, 10};
        for (int many = 1; many <= 5; many++) {
            ParasolHours x = Checks.laid("q3;u0,9,0;u0,9,0;u0,9,0;u0,9,0;u0,9,0;u0,9,0;p0;p0;p0;p0;p0;");
            for (int p = 0; p < many; p++) {
                x.take(p, 5 - p);
            }
            x.pass(1);
            CHECKS.due("count(6) of " + many, x.count(6), pairs[many]);
            x.pass(2);
            CHECKS.due("count(6) of " + many + " in three HOURS", x.count(6), 3 * pairs[many]);
            x.undo();
            CHECKS.due("count(6) undone", x.count(6), pairs[many]);
        }
    }

    private static void appointmentsWhere() {
        CHECKS.promise("PARASOLS with PERSONS under them on one SQUARE, of one HOUR");
        ParasolHours x = Checks.laid("q3;u0,23,0;u3,22,0;u0,23,0;p0;p0;p0;");
        x.take(0, 0);
        x.take(1, 1);
        x.pass(1);
        CHECKS.due("count(6): 23 and 22", x.count(6), 0);
        x.pass(1);
        CHECKS.due("count(6): 0 and 0", x.count(6), 1);
        x.walk(0, 0);
        x.walk(1, 0);
        x.pass(1);
        CHECKS.due("count(6): 1 and 2", x.count(6), 1);
        x = Checks.laid("q3;u0,23,0;u0,23,0;p0;p0;p0;");
        x.take(0, 0);
        x.share(1, 0);
        x.pass(1);
        CHECKS.due("count(6): two under one, one in the STAND", x.count(6), 0);
        x = Checks.laid("q3;u0,23,0;u0,23,0;p0;p0;p0;p0;");
        x.take(0, 0);
        x.take(1, 1);
        x.share(2, 0);
        x.share(3, 1);
        x.pass(1);
        CHECKS.due("count(6): two under each", x.count(6), 1);
        x.walk(2, 0);
        x.pass(1);
        CHECKS.due("count(6): on unlike SQUARES", x.count(6), 1);
        x.walk(3, 0);
        x.pass(1);
        CHECKS.due("count(6): on SQUARE 1 both", x.count(6), 2);
    }

    private static void stillOfFive() {
        CHECKS.promise("each PERSON without SHADE is STILL");
        for (int on0 = 0; on0 <= 5; on0++) {
            ParasolHours x = Checks.laid("q2;u0,0,0;" + "p0;".repeat(on0) + "p1;".repeat(5 - on0));
            x.pass(1);
            CHECKS.due("count(7)", x.count(7), 5 - on0);
            for (int p = 0; p < 5; p++) {
                CHECKS.due("person(" + p + ", 3)", x.person(p, 3), p < on0 ? 0 : 1);
            }
            x.undo();
            CHECKS.due("count(7)", x.count(7), 0);
        }
    }

    private static void takeOfTheLast() {
        CHECKS.promise("take: from the STAND, to the last one");
        ParasolHours x = Checks.laid("q2;u0,1,0;u0,2,0;u0,3,0;u0,4,0;p0;p0;p0;p0;p0;");
        for (int p = 0; p < 4; p++) {
            CHECKS.due("count(8)", x.count(8), 4 - p);
            CHECKS.due("take", x.take(p, 3 - p), 4 - p);
            CHECKS.due("take of what is taken", x.take(4, 3 - p), NO);
        }
        CHECKS.due("count(8)", x.count(8), 0);
        for (int u = 0; u < 4; u++) {
            CHECKS.due("take from an empty STAND", x.take(4, u), NO);
        }
        x.give(2);
        CHECKS.due("count(8)", x.count(8), 1);
        CHECKS.due("take of what was given up", x.take(4, 1), 2);
        CHECKS.due("count(10)", x.count(10), 6);
    }

    private static void takeAgain() {
        CHECKS.promise("take: on SQUARE 0 again");
        ParasolHours x = Checks.laid("q2;u0,5,12;u0,6,0;p0;p1;p1;");
        CHECKS.due("take(1, 0) on SQUARE 1", x.take(1, 0), NO);
        x.walk(1, 1);
        CHECKS.due("take(1, 0) on SQUARE 0", x.take(1, 0), 5);
        x.walk(1, 0);
        x.pass(1);
        CHECKS.due("count(7)", x.count(7), 1);
        // One that was STILL may take one, once woken and brought home.
        CHECKS.due("take(2, 1), STILL", x.take(2, 1), NO);
        x.share(2, 1);
        x.walk(2, 1);
        CHECKS.due("take(2, 1) under one", x.take(2, 1), NO);
        x.give(2);
        CHECKS.due("take(2, 1)", x.take(2, 1), 6);
        CHECKS.due("take of a worn one", x.take(0, 0), NO);
        x.give(1);
        CHECKS.due("take of a worn one", x.take(0, 0), 6);
        person(x, 0, 0, 0, 12, 0, 1);
    }

    private static void shareOfTwo() {
        CHECKS.promise("two at most are under one");
        ParasolHours x = Checks.laid("q2;u0,5,0;u0,6,0;p0;p0;p0;p0;p0;");
        x.take(4, 1);
        CHECKS.due("share(0, 4)", x.share(0, 4), 1);
        for (int p = 1; p < 4; p++) {
            CHECKS.due("share of a third", x.share(p, 4), NO);
            CHECKS.due("share of a third", x.share(p, 0), NO);
        }
        x.give(4);
        CHECKS.due("share when one gave it up", x.share(2, 0), 1);
        CHECKS.due("parasol(1, 3)", x.parasol(1, 3), 5);
        CHECKS.due("share of a third", x.share(4, 2), NO);
        x.take(3, 0);
        CHECKS.due("share of another", x.share(4, 3), 0);
        CHECKS.due("share: under one", x.share(4, 0), NO);
        CHECKS.due("share: under one", x.share(0, 3), NO);
        CHECKS.due("parasol(0, 3)", x.parasol(0, 3), 24);
        CHECKS.due("share: the only PERSON with itself", Checks.laid("q2;u0,5,0;p0;").share(0, 0), BAD);
    }

    private static void shareOnEachSquare() {
        CHECKS.promise("another PERSON on its SQUARE");
        for (int square = 0; square < 4; square++) {
            ParasolHours x = Checks.laid("q4;u0,5,0;p0;p" + square + ";");
            x.take(0, 0);
            for (int to = 0; to < 4; to++) {
                CHECKS.due("share from " + square + " on " + to, x.share(1, 0), to == square ? 0 : NO);
                if (to == square) {
                    x.undo();
                }
                CHECKS.due("walk", x.walk(0, 0), to < 3 ? to + 1 : NO);
            }
        }
    }

    private static void giveOnEachSquare() {
        CHECKS.promise("give: if nobody is, on SQUARE 0; if another is, anywhere");
        ParasolHours x = Checks.laid("q3;u0,5,0;p0;p0;p2;");
        x.take(0, 0);
        CHECKS.due("give on SQUARE 0", x.give(0), 0);
        CHECKS.due("give of none", x.give(0), NO);
        x.take(0, 0);
        x.share(1, 0);
        for (int square = 0; square < 3; square++) {
            CHECKS.due("give on " + square, x.give(0), 0);
            CHECKS.due("count(8): the other is under it", x.count(8), 0);
            CHECKS.due("give of the last on " + square, x.give(1), square == 0 ? 0 : NO);
            CHECKS.due("count(8)", x.count(8), square == 0 ? 1 : 0);
            if (square == 0) {
                x.undo();
            }
            x.undo();
            CHECKS.due("walk", x.walk(0, 0), square < 2 ? square + 1 : NO);
        }
        // A STILL one can give up, and is STILL on; the other one too.
        x = Checks.laid("q3;u0,5,12;p0;p0;");
        x.take(0, 0);
        x.share(1, 0);
        x.walk(0, 0);
        x.pass(2);
        CHECKS.due("count(7)", x.count(7), 2);
        CHECKS.due("give(1), STILL", x.give(1), 0);
        CHECKS.due("count(7)", x.count(7), 2);
        CHECKS.due("give(0), alone", x.give(0), NO);
        CHECKS.due("parasol(0, 3)", x.parasol(0, 3), 1);
    }

    private static void walkFromEndToEnd() {
        CHECKS.promise("walk: to the end and no further");
        for (int many = 1; many <= 9; many++) {
            ParasolHours x = Checks.laid("q" + many + ";u0,5,0;p0;");
            CHECKS.due("walk left at the end", x.walk(0, 1), NO);
            for (int to = 1; to < many; to++) {
                CHECKS.due("walk right", x.walk(0, 0), to);
            }
            CHECKS.due("walk right at the end", x.walk(0, 0), NO);
            for (int to = many - 2; to >= 0; to--) {
                CHECKS.due("walk left", x.walk(0, 1), to);
            }
            CHECKS.due("walk left at the end", x.walk(0, 1), NO);
            CHECKS.due("count(10)", x.count(10), Math.min(8, 2 * (many - 1)));
        }
    }

    private static void walkOfBoth() {
        CHECKS.promise("walk: with it who is under the same PARASOL, and nobody else");
        ParasolHours x = Checks.laid("q3;u0,5,0;u0,6,0;p0;p0;p0;p0;p0;");
        x.take(4, 0);
        x.share(1, 4);
        x.take(0, 1);
        x.share(3, 0);
        CHECKS.due("walk(1, 0)", x.walk(1, 0), 1);
        int[] wants = {0, 1, 0, 0, 1};
        for (int p = 0; p < 5; p++) {
            CHECKS.due("person(" + p + ", 0)", x.person(p, 0), wants[p]);
        }
        CHECKS.due("walk(2, 0), under none", x.walk(2, 0), 1);
        CHECKS.due("person(1, 0)", x.person(1, 0), 1);
        CHECKS.due("walk(2, 0), under none", x.walk(2, 0), 2);
        CHECKS.due("walk(4, 1)", x.walk(4, 1), 0);
        CHECKS.due("person(1, 0)", x.person(1, 0), 0);
        CHECKS.due("person(2, 0)", x.person(2, 0), 2);
        CHECKS.due("undo()", x.undo(), 7);
        CHECKS.due("person(1, 0): both undone", x.person(1, 0), 1);
        CHECKS.due("person(4, 0): both undone", x.person(4, 0), 1);
        // One that walks under none, not yet STILL, goes alone past who is STILL.
        x = Checks.laid("q3;u0,5,0;p1;p0;");
        x.pass(1);
        CHECKS.due("walk(1, 0)", x.walk(1, 0), 1);
        person(x, 0, 1, NONE, 12, 1, 0);
    }

    private static void mendOfEach() {
        CHECKS.promise("mend: WORN by 0");
        for (int worn = 0; worn <= 12; worn++) {
            ParasolHours x = Checks.laid("q2;u0,5,0;u3,6," + worn + ";p0;");
            CHECKS.due("mend(1)", x.mend(1), worn);
            CHECKS.due("mend(1) again", x.mend(1), 0);
            CHECKS.due("parasol(1, 1): its HOUR stays", x.parasol(1, 1), 6);
            CHECKS.due("undo()", x.undo(), 1);
            CHECKS.due("parasol(1, 2)", x.parasol(1, 2), 0);
            CHECKS.due("undo()", x.undo(), 0);
            CHECKS.due("parasol(1, 2)", x.parasol(1, 2), worn);
            x.take(0, 1);
            CHECKS.due("mend(1): somebody under it on SQUARE 0", x.mend(1), NO);
            x.walk(0, 0);
            CHECKS.due("mend(1): somebody under it on SQUARE 1", x.mend(1), NO);
        }
    }

    private static void passLeastAndMost() {
        CHECKS.promise("n HOURS, 1 to 24");
        for (int n = -2; n <= 27; n++) {
            ParasolHours x = Checks.laid("q2;u0,5,0;p0;");
            x.take(0, 0);
            boolean told = n >= 1 && n <= 24;
            CHECKS.due("pass(" + n + ")", x.pass(n), told ? n : BAD);
            CHECKS.due("count(4)", x.count(4), told ? n : 0);
            CHECKS.due("parasol(0, 1)", x.parasol(0, 1), told ? (5 + n) % 24 : 5);
            CHECKS.due("count(10)", x.count(10), told ? 2 : 1);
        }
        ParasolHours x = Checks.laid("q2;u0,5,0;u0,5,0;p0;p0;");
        x.take(0, 0);
        x.take(1, 1);
        for (int i = 1; i <= 400; i++) {
            CHECKS.due("pass(24)", x.pass(24), 24 * i);
        }
        CHECKS.due("count(6)", x.count(6), 9600);
        CHECKS.due("count(4)", x.count(4), 9600);
    }

    private static void undoneIsTheLatest() {
        CHECKS.promise("UNDONE: the latest, to the first, the last 8 at most");
        for (int acts = 0; acts <= 12; acts++) {
            ParasolHours x = Checks.laid("q9;u0,5,0;p0;");
            String[] scenes = new String[acts + 1];
            for (int i = 0; i < acts; i++) {
                scenes[i] = Checks.scene(x);
                x.pass(1);
                CHECKS.due("count(10)", x.count(10), Math.min(8, i + 1));
            }
            int can = Math.min(8, acts);
            for (int i = 1; i <= can; i++) {
                CHECKS.due("undo() " + i + " of " + acts, x.undo(), can - i);
                CHECKS.holds("as it was", Checks.scene(x).equals(scenes[acts - i]));
            }
            String last = Checks.picture(x);
            CHECKS.due("undo() of no more", x.undo(), NO);
            CHECKS.holds("nothing changes then", Checks.picture(x).equals(last));
            CHECKS.due("count(4)", x.count(4), acts - can);
        }
    }

    private static void undoneOfPass() {
        CHECKS.promise("UNDONE: all HOURS that go by at one time are one");
        ParasolHours x = Checks.laid("q2;u0,12,12;u0,12,0;p0;p0;p1;w1,12;w0,12;w0,20;");
        x.take(0, 0);
        x.take(1, 1);
        String before = Checks.scene(x);
        CHECKS.due("pass(24)", x.pass(24), 24);
        CHECKS.due("count(10)", x.count(10), 3);
        CHECKS.due("count(6)", x.count(6), 24);
        CHECKS.due("count(5)", x.count(5), 3);
        CHECKS.due("count(7)", x.count(7), 1);
        CHECKS.due("undo()", x.undo(), 2);
        CHECKS.holds("as it was", Checks.scene(x).equals(before));
        CHECKS.due("count(4)", x.count(4), 0);
    }

    private static void undoneBeyond8() {
        CHECKS.promise("UNDONE: again, when some are undone");
        ParasolHours x = Checks.laid("q9;u0,5,0;p0;");
        for (int i = 0; i < 8; i++) {
            x.pass(1);
        }
        x.undo();
        x.undo();
        CHECKS.due("count(10)", x.count(10), 6);
        x.pass(10);
        x.pass(10);
        CHECKS.due("count(10)", x.count(10), 8);
        x.pass(10);
        CHECKS.due("count(10)", x.count(10), 8);
        int[] wants = {26, 16, 6, 5, 4, 3, 2, 1};
        for (int i = 0; i < 8; i++) {
            CHECKS.due("undo()", x.undo(), 7 - i);
            CHECKS.due("count(4)", x.count(4), wants[i]);
        }
        CHECKS.due("undo()", x.undo(), NO);
    }

    private static void undoneThroughStill() {
        CHECKS.promise("UNDONE: who was STILL is so again");
        ParasolHours x = Checks.laid("q3;u0,5,0;p0;p1;");
        x.pass(1);
        x.take(0, 0);
        x.walk(0, 0);
        x.share(1, 0);
        person(x, 1, 1, 0, 5, 0, 1);
        x.undo();
        person(x, 1, 1, NONE, 12, 1, 0);
        CHECKS.due("share(1, 0) again", x.share(1, 0), 0);
        x.walk(1, 0);
        person(x, 0, 2, 0, 5, 0, 1);
        x.undo();
        x.undo();
        x.undo();
        person(x, 0, 0, 0, 5, 0, 1);
        person(x, 1, 1, NONE, 12, 1, 0);
        x.undo();
        CHECKS.due("count(8)", x.count(8), 1);
        CHECKS.due("undo()", x.undo(), 0);
        person(x, 1, 1, NONE, 12, 0, 0);
    }
}
