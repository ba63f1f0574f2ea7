/** The boundary cases of Terms 4, sentence by sentence: SEEN, WHICH, SET, FLECKS, A DAY, KEPT; and promise 30. */
public final class DayEdgesTest {
    private static final int BAD = ParasolHours.BAD, NO = ParasolHours.NO;
    private static final int FULL = ParasolHours.FULL, NONE = ParasolHours.NONE;
    private static final int ALL_HOURS = (1 << 24) - 1;
    private static final Checks CHECKS = new Checks("DayEdgesTest");

    public static void main(String[] args) {
        seenOfEachPlace();
        seenOf0And30();
        seenTwice();
        seenWhenAsked();
        seenOfEvenHours();
        whichOfAll();
        setOfEachHour();
        setWhateverItIsNow();
        flecksOf0();
        flecksOfNoneAndAllOfTen();
        flecksInLowestTerms();
        flecksRoundTheDial();
        flecksOfEvenHours();
        dayLeastAndMost();
        dayOfEachAct();
        dayOfActsThatCannotBe();
        dayLaterOn();
        dayAloneAndInACrowd();
        keptOfTwo();
        keptWithWhatStays();
        keptAndUndone();
        keptWithStill();
        counts();
        CHECKS.end();
    }

    /** SEEN are six, and each of them counts, the sixth too. */
    private static void seenOfEachPlace() {
        CHECKS.promise("SEEN: 6 at most, each of them");
        for (int odd = 0; odd < 6; odd++) {
            ParasolHours x = Checks.laid("q2;u0,10,0;u3,10,0;p0;");
            for (int i = 0; i < 6; i++) {
                // All the others tell nothing of which of the two it is.
                CHECKS.due("see", i == odd ? x.see(11, 1) : x.see(10, 0), i + 1);
                CHECKS.due("which()", x.which(), i >= odd ? 1 : 3);
                CHECKS.due("set(0)", x.set(0), 1 << 10);
                CHECKS.due("set(1)", x.set(1), i < odd ? 1 << 10 : i == 0 ? 1 << 9 : 0);
            }
            CHECKS.due("see of a seventh", x.see(12, 1), FULL);
            CHECKS.due("which(): it is not SEEN", x.which(), 1);
            CHECKS.due("set(0)", x.set(0), 1 << 10);
            CHECKS.due("count(9)", x.count(9), 6);
            CHECKS.due("forget()", x.forget(), 6);
            CHECKS.due("which()", x.which(), 3);
            CHECKS.due("set(1)", x.set(1), ALL_HOURS);
        }
    }

    private static void seenOf0And30() {
        CHECKS.promise("SEEN: behind 0 to 30 HOURS");
        for (int n = 0; n <= 30; n++) {
            ParasolHours x = Checks.laid("q2;u0,20,0;u1,20,0;u2,20,0;u3,20,0;p0;");
            int silk = (20 + n) % 24;
            int lace = (20 + (n + 1) / 2) % 24;
            int paper = (20 + 2 * n) % 24;
            for (int h = 0; h < 24; h++) {
                int want = (h == silk ? 3 : 0) + (h == lace ? 4 : 0) + (h == paper ? 8 : 0);
                CHECKS.due("see(" + h + ", " + n + ")", x.see(h, n), 1);
                CHECKS.due("which()", x.which(), want);
                CHECKS.due("set(0)", x.set(0), 1 << (h - n + 48) % 24);
                CHECKS.due("set(2)", x.set(2), 1 << (h - (n + 1) / 2 + 48) % 24);
                CHECKS.due("set(3)", x.set(3), 1 << (h - 2 * n + 72) % 24);
                x.forget();
            }
        }
    }

    private static void seenTwice() {
        CHECKS.promise("SEEN: the same again, and what can't be");
        ParasolHours x = Checks.laid("q2;u0,20,0;p0;");
        CHECKS.due("see(21, 1)", x.see(21, 1), 1);
        CHECKS.due("see(21, 1) again", x.see(21, 1), 2);
        CHECKS.due("which()", x.which(), 1);
        CHECKS.due("see(22, 1): never both", x.see(22, 1), 3);
        CHECKS.due("which()", x.which(), 0);
        CHECKS.due("set(0)", x.set(0), 0);
    }

    private static void seenWhenAsked() {
        CHECKS.promise("SEEN: from how it stands when that is asked");
        ParasolHours x = Checks.laid("q2;u0,10,12;u0,12,0;p0;");
        x.see(12, 0);
        CHECKS.due("which()", x.which(), 2);
        x.take(0, 0);
        x.pass(2);
        CHECKS.due("which()", x.which(), 3);
        x.pass(1);
        CHECKS.due("which()", x.which(), 2);
        x.undo();
        CHECKS.due("which() undone", x.which(), 3);
        x.undo();
        CHECKS.due("which() undone", x.which(), 2);
        CHECKS.due("set(0): of any HOUR", x.set(0), 1 << 12);
    }

    private static void seenOfEvenHours() {
        CHECKS.promise("SEEN: LACE from even and odd HOURS");
        for (int gone = 0; gone < 4; gone++) {
            ParasolHours x = Checks.laid("q2;u2,10,0;p0;");
            for (int i = 0; i < gone; i++) {
                x.pass(1);
            }
            for (int n = 0; n <= 30; n++) {
                int turns = gone % 2 == 0 ? (n + 1) / 2 : n / 2;
                x.see((10 + turns) % 24, n);
                CHECKS.due("which() behind " + n, x.which(), 1);
                CHECKS.due("set(0) behind " + n, x.set(0), 1 << 10);
                x.forget();
            }
        }
    }

    private static void whichOfAll() {
        CHECKS.promise("WHICH: as many PARASOLS as there are");
        for (int many = 1; many <= 6; many++) {
            ParasolHours x = Checks.laid("q2;" + "u0,7,0;".repeat(many) + "p0;");
            CHECKS.due("which() of nothing SEEN", x.which(), (1 << many) - 1);
            x.see(7, 0);
            CHECKS.due("which()", x.which(), (1 << many) - 1);
            x.see(7, 1);
            CHECKS.due("which()", x.which(), 0);
            x.forget();
            x.see(0, 0);
            CHECKS.due("which()", x.which(), 0);
        }
        for (int u = 0; u < 6; u++) {
            StringBuilder text = new StringBuilder();
            for (int v = 0; v < 6; v++) {
                text.append(v == u ? "u0,0,0;" : "u0,1,0;");
            }
            ParasolHours x = Checks.laid(text + "p0;");
            x.see(0, 24);
            CHECKS.due("which() of one", x.which(), 1 << u);
        }
    }

    private static void setOfEachHour() {
        CHECKS.promise("SET: bits 0 to 23");
        ParasolHours x = Checks.laid("q2;u0,7,0;u2,7,0;u3,7,0;p0;");
        for (int u = 0; u < 3; u++) {
            CHECKS.due("set(" + u + ") of nothing SEEN", x.set(u), ALL_HOURS);
        }
        for (int h = 0; h < 24; h++) {
            x.see(h, 0);
            for (int u = 0; u < 3; u++) {
                CHECKS.due("set(" + u + ")", x.set(u), 1 << h);
            }
            x.forget();
        }
    }

    private static void setWhateverItIsNow() {
        CHECKS.promise("SET: were it that one under it now");
        for (int now = 0; now < 24; now++) {
            ParasolHours x = Checks.laid("q2;u0," + now + ",12;p0;");
            x.see(3, 5);
            CHECKS.due("set(0)", x.set(0), 1 << 22);
            CHECKS.due("which()", x.which(), now == 22 ? 1 : 0);
            CHECKS.due("parasol(0, 1): it is not set", x.parasol(0, 1), now);
        }
    }

    private static void flecksOf0() {
        CHECKS.promise("FLECKS: of 0 HOURS");
        ParasolHours x = Checks.laid("q2;u0,7,0;u1,7,0;u2,7,0;u3,7,0;p0;");
        for (int u = 0; u < 4; u++) {
            for (int tenths = 0; tenths <= 10; tenths++) {
                for (int h = 0; h < 24; h++) {
                    CHECKS.chance(x, u, h, 0, tenths, h == 7 ? 1 : 0, 1);
                }
            }
        }
    }

    private static void flecksOfNoneAndAllOfTen() {
        CHECKS.promise("FLECKS: by 0 and 10 of ten");
        ParasolHours x = Checks.laid("q2;u0,20,0;u1,20,0;u2,20,0;u3,20,0;p0;");
        for (int n = 0; n <= 8; n++) {
            int[] last = {(20 + n) % 24, (20 + n) % 24, (20 + (n + 1) / 2) % 24, (20 + 2 * n) % 24};
            for (int u = 0; u < 4; u++) {
                for (int h = 0; h < 24; h++) {
                    CHECKS.chance(x, u, h, n, 0, h == 20 ? 1 : 0, 1);
                    CHECKS.chance(x, u, h, n, 10, h == last[u] ? 1 : 0, 1);
                }
            }
        }
    }

    private static void flecksInLowestTerms() {
        CHECKS.promise("FLECKS: in lowest terms");
        ParasolHours x = Checks.laid("q2;u0,0,0;p0;");
        CHECKS.chance(x, 0, 1, 1, 5, 1, 2);
        CHECKS.chance(x, 0, 0, 1, 5, 1, 2);
        CHECKS.chance(x, 0, 1, 1, 4, 2, 5);
        CHECKS.chance(x, 0, 1, 1, 1, 1, 10);
        CHECKS.chance(x, 0, 0, 1, 1, 9, 10);
        CHECKS.chance(x, 0, 0, 2, 6, 4, 25);
        CHECKS.chance(x, 0, 1, 2, 6, 12, 25);
        CHECKS.chance(x, 0, 2, 2, 6, 9, 25);
        CHECKS.chance(x, 0, 3, 2, 6, 0, 1);
        CHECKS.chance(x, 0, 8, 8, 5, 1, 256);
        CHECKS.chance(x, 0, 4, 8, 5, 35, 128);
        CHECKS.chance(x, 0, 0, 8, 9, 1, 100000000);
        CHECKS.chance(x, 0, 8, 8, 9, 43046721, 100000000);
        CHECKS.chance(x, 0, 8, 8, 8, 65536, 390625);
        CHECKS.chance(x, 0, 1, 8, 9, 9, 12500000);
        CHECKS.chance(x, 0, 9, 8, 9, 0, 1);
    }

    private static void flecksRoundTheDial() {
        CHECKS.promise("FLECKS: 23 and 1 is 0");
        for (int first = 0; first < 24; first++) {
            ParasolHours x = Checks.laid("q2;u0," + first + ",12;u3," + first + ",12;p0;");
            CHECKS.chance(x, 0, first, 2, 5, 1, 4);
            CHECKS.chance(x, 0, (first + 1) % 24, 2, 5, 1, 2);
            CHECKS.chance(x, 0, (first + 2) % 24, 2, 5, 1, 4);
            CHECKS.chance(x, 1, first, 2, 5, 1, 4);
            CHECKS.chance(x, 1, (first + 1) % 24, 2, 5, 0, 1);
            CHECKS.chance(x, 1, (first + 2) % 24, 2, 5, 1, 2);
            CHECKS.chance(x, 1, (first + 4) % 24, 2, 5, 1, 4);
        }
    }

    private static void flecksOfEvenHours() {
        CHECKS.promise("FLECKS: by as much as it would");
        ParasolHours x = Checks.laid("q2;u2,0,0;u1,0,0;p0;");
        CHECKS.chance(x, 0, 1, 1, 3, 3, 10);
        CHECKS.chance(x, 0, 1, 2, 3, 3, 10);
        CHECKS.chance(x, 0, 2, 2, 3, 0, 1);
        CHECKS.chance(x, 0, 4, 8, 5, 1, 16);
        CHECKS.chance(x, 0, 5, 8, 10, 0, 1);
        x.pass(1);
        // In HOUR 1 a LACE one would not go on, whatever the flecks; a BLACK one would.
        CHECKS.chance(x, 0, 0, 1, 10, 1, 1);
        CHECKS.chance(x, 0, 1, 2, 3, 3, 10);
        CHECKS.chance(x, 0, 4, 7, 5, 0, 1);
        CHECKS.chance(x, 0, 3, 7, 5, 1, 8);
        CHECKS.chance(x, 1, 1, 1, 3, 3, 10);
        String before = Checks.picture(x);
        x.flecks(0, 0, 8, 5, 0);
        CHECKS.holds("nothing changes", Checks.picture(x).equals(before));
    }

    /** A day against the same acts one by one, by which the object is spoilt. */
    private static void days(ParasolHours x, int z, int n) {
        String before = Checks.picture(x);
        int works = x.day(z, n, 0);
        int met = x.day(z, n, 1);
        CHECKS.holds("nothing changes by it", Checks.picture(x).equals(before));
        int[] wants = DaysTest.actedDay(x, z, n);
        CHECKS.due("day(" + z + ", " + n + ", 0)", works, wants[0]);
        CHECKS.due("day(" + z + ", " + n + ", 1)", met, wants[1]);
    }

    private static void dayLeastAndMost() {
        CHECKS.promise("A DAY: z 0 to 9999, n 1 to 60");
        String text = "q2;u0,12,0;u1,12,0;u3,12,0;p0;p0;p0;w0,13;w1,12;w0,20;w1,15;w0,12;";
        for (int z : new int[] {0, 1, 2, 7, 8, 4999, 9997, 9998, 9999}) {
            for (int n = 1; n <= 60; n++) {
                days(Checks.laid(text), z, n);
            }
            ParasolHours x = Checks.laid(text);
            CHECKS.due("day(" + z + ", 0, 0)", x.day(z, 0, 0), BAD);
            CHECKS.due("day(" + z + ", 61, 0)", x.day(z, 61, 0), BAD);
        }
    }

    /** Days of one HOUR, until each of the eight DRAWS has come many times. */
    private static void dayOfEachAct() {
        CHECKS.promise("A DAY: each act");
        String text = "q3;u0,12,0;u0,12,3;u0,13,12;p0;p0;p0;p1;w0,12;w1,12;w2,12;w0,13;w1,13;w2,13;";
        int[] times = new int[8];
        for (int z = 0; z < 400; z++) {
            times[DaysTest.draw(z, 0) % 8]++;
            ParasolHours x = Checks.laid(text);
            days(x, z, 1);
            x = Checks.laid(text);
            x.take(0, 0);
            x.share(1, 0);
            x.take(2, 1);
            days(x, z, 1);
            x = Checks.laid(text);
            x.take(0, 2);
            x.pass(2);
            x.walk(0, 0);
            x.take(1, 1);
            x.walk(1, 0);
            days(x, z, 2);
        }
        for (int i = 0; i < 8; i++) {
            CHECKS.holds("DRAW modulo 8 is " + i + " at times", times[i] > 20);
        }
    }

    private static void dayOfActsThatCannotBe() {
        CHECKS.promise("A DAY: each if it can be");
        for (int z = 0; z < 200; z++) {
            // One PERSON alone: none to share with; one SQUARE alone: none to walk to.
            days(Checks.laid("q1;u0,12,12;p0;w0,12;w0,13;w0,14;"), z, 20);
            days(Checks.laid("q2;u0,12,12;p1;w0,12;w1,12;w1,14;"), z, 20);
            days(Checks.laid("q1;u0,12,12;p0;p0;p0;p0;p0;w0,12;w0,13;"), z, 20);
            days(Checks.laid("q2;u0,12,0;p1;p1;w0,12;"), z, 5);
        }
    }

    private static void dayLaterOn() {
        CHECKS.promise("A DAY: from now on");
        for (int z = 0; z < 60; z++) {
            ParasolHours x = Checks.laid("q2;u2,12,0;u1,12,0;u2,12,9;p0;p0;p0;p1;w0,12;w1,13;w0,14;w1,20;");
            x.take(0, 0);
            x.take(1, 1);
            x.pass(1 + z % 3);
            CHECKS.holds("some were done ahead", x.count(5) > 0 && x.count(6) > 0);
            days(x, z, 1 + z);
            days(x, 9999 - z, 60 - z);
        }
    }

    private static void dayAloneAndInACrowd() {
        CHECKS.promise("A DAY: modulo as many as there are");
        for (int persons = 1; persons <= 5; persons++) {
            for (int parasols = 1; parasols <= 6; parasols++) {
                String text = "q2;" + "u0,12,0;".repeat(parasols) + "p0;".repeat(persons) + "w0,20;w1,3;w1,12;w0,12;";
                for (int z = 0; z < 30; z++) {
                    days(Checks.laid(text), 331 * z, 30);
                }
            }
        }
    }

    private static void keptOfTwo() {
        CHECKS.promise("KEPT: 2 at most");
        ParasolHours x = Checks.laid("q4;u0,5,0;p0;");
        CHECKS.due("back() of none", x.back(), NO);
        for (int i = 0; i < 3; i++) {
            CHECKS.due("keep()", x.keep(), 1);
            x.walk(0, 0);
            CHECKS.due("keep()", x.keep(), 2);
            x.walk(0, 0);
            String before = Checks.picture(x);
            CHECKS.due("keep() of a third", x.keep(), FULL);
            CHECKS.due("keep() of a third", x.keep(), FULL);
            CHECKS.holds("nothing changes then", Checks.picture(x).equals(before));
            CHECKS.due("back()", x.back(), 1);
            CHECKS.due("person(0, 0)", x.person(0, 0), 1);
            CHECKS.due("keep() once more", x.keep(), 2);
            x.walk(0, 0);
            CHECKS.due("back()", x.back(), 1);
            CHECKS.due("person(0, 0)", x.person(0, 0), 1);
            CHECKS.due("back()", x.back(), 0);
            CHECKS.due("person(0, 0)", x.person(0, 0), 0);
            before = Checks.picture(x);
            CHECKS.due("back() of none", x.back(), NO);
            CHECKS.holds("nothing changes then", Checks.picture(x).equals(before));
        }
    }

    private static void keptWithWhatStays() {
        CHECKS.promise("KEPT: all but what is SEEN and THE TEXT");
        ParasolHours x = Checks.laid("q2;u0,5,0;p0;");
        x.wipe();
        x.see(5, 0);
        x.write('a');
        x.keep();
        x.see(6, 1);
        x.write('b');
        x.back();
        CHECKS.due("count(9): more SEEN stays", x.count(9), 2);
        CHECKS.due("count(12): a longer TEXT stays", x.count(12), 2);
        x.keep();
        x.forget();
        x.wipe();
        x.back();
        CHECKS.due("count(9): nothing SEEN stays so", x.count(9), 0);
        CHECKS.due("count(12): an empty TEXT stays so", x.count(12), 0);
        x.see(9, 9);
        x.undo();
        CHECKS.due("count(9)", x.count(9), 1);
    }

    private static void keptAndUndone() {
        CHECKS.promise("KEPT: nothing can be UNDONE behind back()");
        ParasolHours x = Checks.laid("q9;u0,5,0;p0;");
        for (int i = 0; i < 3; i++) {
            x.walk(0, 0);
        }
        x.keep();
        CHECKS.due("count(10): keep() is no act, and undoes none", x.count(10), 3);
        CHECKS.due("undo() behind keep()", x.undo(), 2);
        CHECKS.due("count(11): KEPT is not undone", x.count(11), 1);
        for (int i = 0; i < 9; i++) {
            x.pass(1);
        }
        CHECKS.due("count(10)", x.count(10), 8);
        CHECKS.due("back()", x.back(), 0);
        CHECKS.due("count(10)", x.count(10), 0);
        CHECKS.due("undo()", x.undo(), NO);
        CHECKS.due("person(0, 0)", x.person(0, 0), 3);
        CHECKS.due("count(4)", x.count(4), 0);
        x.walk(0, 1);
        CHECKS.due("undo() of what came behind", x.undo(), 0);
        CHECKS.due("person(0, 0)", x.person(0, 0), 3);
        // What can be UNDONE stays, if there is nothing to go back to.
        x.walk(0, 1);
        CHECKS.due("back() of none", x.back(), NO);
        CHECKS.due("count(10)", x.count(10), 1);
        Checks.write(x, "u0,5,0;p0;");
        x.keep();
        x.lay();
        CHECKS.due("count(11): laid, nothing is KEPT", x.count(11), 0);
        CHECKS.due("back()", x.back(), NO);
    }

    private static void keptWithStill() {
        CHECKS.promise("KEPT: all as it stands");
        ParasolHours x = Checks.laid("q3;u0,12,12;u1,12,3;p0;p0;p1;w1,12;w0,12;");
        x.take(0, 0);
        x.take(1, 1);
        x.keep();
        String first = Checks.scene(x);
        x.pass(3);
        x.keep();
        String second = Checks.scene(x);
        CHECKS.due("count(5)", x.count(5), 2);
        CHECKS.due("count(6)", x.count(6), 3);
        CHECKS.due("count(7)", x.count(7), 1);
        x.pass(3);
        x.give(1);
        x.mend(1);
        CHECKS.due("back()", x.back(), 1);
        CHECKS.holds("as KEPT last", Checks.scene(x).equals(second));
        CHECKS.due("back()", x.back(), 0);
        CHECKS.holds("as KEPT first", Checks.scene(x).equals(first));
    }

    private static void counts() {
        CHECKS.promise("count: each from none to the most");
        ParasolHours x = Checks.laid("q9;" + "u0,12,12;".repeat(6) + "p0;".repeat(5) + "w0,12;".repeat(6));
        int[] wants = {9, 6, 5, 6, 0, 0, 0, 0, 6, 0, 0, 0, 108};
        for (int what = 0; what < wants.length; what++) {
            CHECKS.due("count(" + what + ")", x.count(what), wants[what]);
        }
        for (int p = 0; p < 5; p++) {
            x.take(p, p);
            CHECKS.due("count(8)", x.count(8), 5 - p);
            x.see(p, p);
            CHECKS.due("count(9)", x.count(9), p + 1);
        }
        x.pass(1);
        CHECKS.due("count(5)", x.count(5), 6);
        CHECKS.due("count(6)", x.count(6), 10);
        for (int p = 0; p < 5; p++) {
            x.walk(p, 0);
        }
        x.pass(1);
        CHECKS.due("count(4)", x.count(4), 2);
        CHECKS.due("count(6)", x.count(6), 20);
        CHECKS.due("count(7)", x.count(7), 5);
        CHECKS.due("count(8)", x.count(8), 1);
        CHECKS.due("count(10)", x.count(10), 8);
        CHECKS.due("deal(0): all are STILL", x.deal(0), NONE);
        CHECKS.due("count(13)", x.count(13), BAD);
        CHECKS.due("count(-1)", x.count(-1), BAD);
    }
}
