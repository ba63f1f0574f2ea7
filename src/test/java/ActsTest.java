/** Promises 9 to 15: what is done, and undone. */
public final class ActsTest {
    private static final int BAD = ParasolHours.BAD, NO = ParasolHours.NO, NONE = ParasolHours.NONE;
    private static final Checks CHECKS = new Checks("ActsTest");

    public static void main(String[] args) {
        take();
        share();
        shareWakes();
        give();
        walk();
        walkWakes();
        mend();
        passCounts();
        passWorks();
        passWorksByNoonAndStand();
        passAppointments();
        passStill();
        passTurns();
        passWears();
        undo();
        undoOfEach();
        refusedActsAreNotUndone();
        CHECKS.end();
    }

    /** Refused, and nothing changes by it. */
    private static void refused(ParasolHours x, String call, int got, int want, String before) {
        CHECKS.due(call, got, want);
        CHECKS.holds("nothing changes by " + call, Checks.picture(x).equals(before));
    }

    private static void take() {
        CHECKS.promise("9 take");
        ParasolHours x = Checks.laid("q3;u0,7,0;u1,23,12;p0;p0;p1;");
        String before = Checks.picture(x);
        refused(x, "take(2, 0) off the stand", x.take(2, 0), NO, before);
        refused(x, "take(-1, 0)", x.take(-1, 0), BAD, before);
        refused(x, "take(3, 0)", x.take(3, 0), BAD, before);
        refused(x, "take(0, -1)", x.take(0, -1), BAD, before);
        refused(x, "take(0, 2)", x.take(0, 2), BAD, before);
        refused(x, "take(2, 2) is BAD ahead of NO", x.take(2, 2), BAD, before);
        CHECKS.due("take(0, 1)", x.take(0, 1), 23);
        CHECKS.due("person(0, 1)", x.person(0, 1), 1);
        CHECKS.due("parasol(1, 3)", x.parasol(1, 3), 1);
        CHECKS.due("count(8)", x.count(8), 1);
        CHECKS.due("count(10)", x.count(10), 1);
        before = Checks.picture(x);
        refused(x, "take(0, 0) under one", x.take(0, 0), NO, before);
        refused(x, "take(1, 1) not in the stand", x.take(1, 1), NO, before);
        CHECKS.due("take(1, 0)", x.take(1, 0), 7);
        CHECKS.due("count(8)", x.count(8), 0);
        ParasolHours out = Checks.laid("q3;u0,7,0;u1,23,12;p0;p0;p1;");
        out.walk(0, 0);
        CHECKS.due("take(0, 0) on square 1", out.take(0, 0), NO);
        out.pass(1);
        CHECKS.due("take(2, 0), STILL", out.take(2, 0), NO);
        out.take(1, 0);
        out.walk(1, 0);
        CHECKS.due("take of one that is away", out.take(1, 0), NO);
    }

    private static void share() {
        CHECKS.promise("10 share");
        ParasolHours x = Checks.laid("q3;u0,7,0;u1,23,12;p0;p0;p0;p1;");
        x.take(0, 1);
        String before = Checks.picture(x);
        refused(x, "share(1, 2): under none", x.share(1, 2), NO, before);
        refused(x, "share(0, 1): under one", x.share(0, 1), NO, before);
        refused(x, "share(3, 0): elsewhere", x.share(3, 0), NO, before);
        refused(x, "share(0, 0)", x.share(0, 0), BAD, before);
        refused(x, "share(1, 1)", x.share(1, 1), BAD, before);
        refused(x, "share(-1, 0)", x.share(-1, 0), BAD, before);
        refused(x, "share(4, 0)", x.share(4, 0), BAD, before);
        refused(x, "share(1, 4)", x.share(1, 4), BAD, before);
        refused(x, "share(1, -1)", x.share(1, -1), BAD, before);
        CHECKS.due("share(1, 0)", x.share(1, 0), 1);
        CHECKS.due("parasol(1, 3)", x.parasol(1, 3), 3);
        CHECKS.due("person(1, 2)", x.person(1, 2), 23);
        CHECKS.due("count(8)", x.count(8), 1);
        before = Checks.picture(x);
        refused(x, "share(2, 0): two are under it", x.share(2, 0), NO, before);
        refused(x, "share(2, 1): two are under it", x.share(2, 1), NO, before);
        refused(x, "share(1, 0): under it already", x.share(1, 0), NO, before);
        x.take(2, 0);
        refusedOnceMore(x);
    }

    private static void refusedOnceMore(ParasolHours x) {
        String before = Checks.picture(x);
        refused(x, "share(2, 0): each under one", x.share(2, 0), NO, before);
        x.walk(2, 0);
        CHECKS.due("share(3, 2)", x.share(3, 2), 0);
        CHECKS.due("person(3, 2)", x.person(3, 2), 7);
    }

    private static void shareWakes() {
        CHECKS.promise("10 share: not STILL any more");
        ParasolHours x = Checks.laid("q3;u0,7,12;p0;p1;p1;");
        x.take(0, 0);
        x.walk(0, 0);
        x.pass(2);
        CHECKS.due("count(7)", x.count(7), 3);
        CHECKS.due("share(1, 2): under none", x.share(1, 2), NO);
        CHECKS.due("share(1, 0), worn, under one that is STILL", x.share(1, 0), 0);
        CHECKS.due("person(1, 3)", x.person(1, 3), 0);
        CHECKS.due("person(0, 3)", x.person(0, 3), 1);
        CHECKS.due("person(1, 4)", x.person(1, 4), 0);
        x.pass(1);
        CHECKS.due("person(1, 3) behind an HOUR", x.person(1, 3), 1);
    }

    private static void give() {
        CHECKS.promise("11 give");
        ParasolHours x = Checks.laid("q3;u0,7,0;u1,23,12;p0;p0;p1;");
        String before = Checks.picture(x);
        refused(x, "give(0): under none", x.give(0), NO, before);
        refused(x, "give(-1)", x.give(-1), BAD, before);
        refused(x, "give(3)", x.give(3), BAD, before);
        x.take(0, 1);
        CHECKS.due("give(0)", x.give(0), 1);
        CHECKS.due("person(0, 1)", x.person(0, 1), NONE);
        CHECKS.due("count(8)", x.count(8), 2);
        x.take(0, 1);
        x.share(1, 0);
        CHECKS.due("give(0) on square 0, another under it", x.give(0), 1);
        CHECKS.due("parasol(1, 3)", x.parasol(1, 3), 2);
        CHECKS.due("count(8)", x.count(8), 1);
        x.walk(1, 0);
        before = Checks.picture(x);
        refused(x, "give(1): alone", x.give(1), NO, before);
        x.share(2, 1);
        CHECKS.due("give(1), another under it", x.give(1), 1);
        CHECKS.due("parasol(1, 4)", x.parasol(1, 4), 1);
        CHECKS.due("give(2): alone now", x.give(2), NO);
        x.share(1, 2);
        x.pass(1);
        CHECKS.due("person(2, 3)", x.person(2, 3), 0);
        x.pass(1);
        CHECKS.due("person(2, 3)", x.person(2, 3), 1);
        CHECKS.due("give(2), STILL", x.give(2), 1);
        CHECKS.due("person(2, 3)", x.person(2, 3), 1);
        CHECKS.due("person(1, 1)", x.person(1, 1), 1);
    }

    private static void walk() {
        CHECKS.promise("12 walk");
        ParasolHours x = Checks.laid("q3;u0,7,0;p0;p0;p1;");
        String before = Checks.picture(x);
        refused(x, "walk(0, 1): the left end", x.walk(0, 1), NO, before);
        refused(x, "walk(0, 2)", x.walk(0, 2), BAD, before);
        refused(x, "walk(0, -1)", x.walk(0, -1), BAD, before);
        refused(x, "walk(-1, 0)", x.walk(-1, 0), BAD, before);
        refused(x, "walk(3, 0)", x.walk(3, 0), BAD, before);
        CHECKS.due("walk(2, 0)", x.walk(2, 0), 2);
        CHECKS.due("person(0, 0)", x.person(0, 0), 0);
        CHECKS.due("person(1, 0)", x.person(1, 0), 0);
        before = Checks.picture(x);
        refused(x, "walk(2, 0): the right end", x.walk(2, 0), NO, before);
        CHECKS.due("walk(2, 1)", x.walk(2, 1), 1);
        CHECKS.due("walk(2, 1)", x.walk(2, 1), 0);
        x.take(1, 0);
        x.share(2, 1);
        CHECKS.due("walk(2, 0), two under one", x.walk(2, 0), 1);
        CHECKS.due("person(1, 0)", x.person(1, 0), 1);
        CHECKS.due("person(2, 0)", x.person(2, 0), 1);
        CHECKS.due("person(0, 0)", x.person(0, 0), 0);
        CHECKS.due("parasol(0, 4)", x.parasol(0, 4), 1);
        CHECKS.due("walk(1, 0), two under one", x.walk(1, 0), 2);
        CHECKS.due("person(2, 0)", x.person(2, 0), 2);
        x.give(2);
        CHECKS.due("walk(1, 1)", x.walk(1, 1), 1);
        CHECKS.due("person(2, 0)", x.person(2, 0), 2);
        ParasolHours one = Checks.laid("q1;u0,7,0;p0;");
        CHECKS.due("walk(0, 0) in one square", one.walk(0, 0), NO);
        CHECKS.due("walk(0, 1) in one square", one.walk(0, 1), NO);
    }

    private static void walkWakes() {
        CHECKS.promise("12 walk: STILL");
        ParasolHours x = Checks.laid("q4;u0,7,12;p0;p1;p1;");
        x.take(0, 0);
        x.walk(0, 0);
        x.pass(2);
        String before = Checks.picture(x);
        refused(x, "walk(0, 0), STILL", x.walk(0, 0), NO, before);
        refused(x, "walk(1, 1), STILL", x.walk(1, 1), NO, before);
        x.share(1, 0);
        CHECKS.due("walk(0, 0), STILL", x.walk(0, 0), NO);
        CHECKS.due("walk(1, 0), with one that is STILL", x.walk(1, 0), 2);
        CHECKS.due("person(0, 0)", x.person(0, 0), 2);
        CHECKS.due("person(0, 3)", x.person(0, 3), 0);
        CHECKS.due("person(2, 3), left behind", x.person(2, 3), 1);
        CHECKS.due("person(2, 0), left behind", x.person(2, 0), 1);
        CHECKS.due("walk(0, 1)", x.walk(0, 1), 1);
    }

    private static void mend() {
        CHECKS.promise("13 mend");
        ParasolHours x = Checks.laid("q3;u0,7,5;u1,23,12;p0;p0;p1;");
        String before = Checks.picture(x);
        refused(x, "mend(-1)", x.mend(-1), BAD, before);
        refused(x, "mend(2)", x.mend(2), BAD, before);
        CHECKS.due("mend(0)", x.mend(0), 5);
        CHECKS.due("parasol(0, 2)", x.parasol(0, 2), 0);
        CHECKS.due("parasol(1, 2)", x.parasol(1, 2), 12);
        CHECKS.due("mend(0) again", x.mend(0), 0);
        CHECKS.due("count(10)", x.count(10), 2);
        x.take(0, 1);
        before = Checks.picture(x);
        refused(x, "mend(1): not in the stand", x.mend(1), NO, before);
        x.pass(20);
        CHECKS.due("parasol(1, 2)", x.parasol(1, 2), 20);
        x.give(0);
        CHECKS.due("mend(1)", x.mend(1), 20);
        CHECKS.due("take(0, 1)", x.take(0, 1), 19);
        CHECKS.due("person(0, 2)", x.person(0, 2), 19);
    }

    private static void passCounts() {
        CHECKS.promise("14 pass: how many");
        ParasolHours x = Checks.laid("q3;u0,7,5;p0;");
        String before = Checks.picture(x);
        refused(x, "pass(0)", x.pass(0), BAD, before);
        refused(x, "pass(25)", x.pass(25), BAD, before);
        refused(x, "pass(-1)", x.pass(-1), BAD, before);
        CHECKS.due("pass(1)", x.pass(1), 1);
        CHECKS.due("pass(24)", x.pass(24), 25);
        CHECKS.due("count(4)", x.count(4), 25);
        CHECKS.due("count(10)", x.count(10), 2);
        CHECKS.due("parasol(0, 1) in the stand", x.parasol(0, 1), 7);
        CHECKS.due("parasol(0, 2) in the stand", x.parasol(0, 2), 5);
        ParasolHours split = Checks.laid(Checks.FIRST);
        ParasolHours whole = Checks.laid(Checks.FIRST);
        for (ParasolHours each : new ParasolHours[] {split, whole}) {
            each.take(0, 2);
            each.take(1, 3);
            each.share(3, 0);
            each.walk(1, 0);
        }
        for (int i = 0; i < 24; i++) {
            split.pass(1);
        }
        whole.pass(24);
        CHECKS.holds("24 times 1 is 24", Checks.scene(split).equals(Checks.scene(whole)));
    }

    private static void passWorks() {
        CHECKS.promise("14 pass: works");
        ParasolHours x = Checks.laid("q3;u0,9,0;u0,9,0;u0,12,12;p0;p0;p0;w1,9;w1,10;w1,10;w2,10;w1,12;w0,9;");
        x.take(0, 0);
        x.walk(0, 0);
        CHECKS.due("pass(1)", x.pass(1), 1);
        works(x, 1, 0, 0, 0, 0, 0);
        x.pass(1);
        works(x, 1, 1, 1, 0, 0, 0);
        CHECKS.due("count(5)", x.count(5), 3);
        x.take(1, 1);
        x.pass(1);
        works(x, 1, 1, 1, 0, 0, 1);
        x.walk(0, 0);
        x.pass(1);
        works(x, 1, 1, 1, 0, 0, 1);
        // A worn one keeps NOON: 11 under it, but the WORK at 12 is done; then its bearer is STILL.
        ParasolHours worn = Checks.laid("q3;u0,10,12;p0;w1,10;w1,11;w1,12;");
        worn.take(0, 0);
        worn.walk(0, 0);
        worn.pass(1);
        works(worn, 1, 0, 0);
        worn.pass(1);
        works(worn, 1, 0, 1);
        CHECKS.due("person(0, 3)", worn.person(0, 3), 1);
        CHECKS.due("count(5)", worn.count(5), 2);
    }

    private static void works(ParasolHours x, int... wants) {
        for (int w = 0; w < wants.length; w++) {
            CHECKS.due("work(" + w + ", 2)", x.work(w, 2), wants[w]);
        }
    }

    private static void passWorksByNoonAndStand() {
        CHECKS.promise("14 pass: works at noon");
        ParasolHours x = Checks.laid("q3;u0,11,12;p0;p2;w0,12;w1,12;w2,12;");
        x.pass(1);
        // On SQUARE 0 under none there is no TIME; elsewhere it is NOON, and STILL comes later in the HOUR.
        works(x, 0, 0, 1);
        x.take(0, 0);
        x.pass(1);
        works(x, 0, 0, 1);
        CHECKS.due("parasol(0, 2)", x.parasol(0, 2), 13);
        x.pass(1);
        works(x, 1, 0, 1);
        ParasolHours still = Checks.laid("q3;u0,11,12;p0;p1;w1,12;w1,11;w2,12;");
        still.walk(0, 0);
        still.walk(0, 0);
        still.pass(1);
        works(still, 1, 0, 1);
        // One that is STILL does no WORK, whatever TIME it has.
        ParasolHours idle = Checks.laid("q2;u0,10,12;p0;p1;w1,12;w1,11;");
        idle.pass(1);
        works(idle, 1, 0);
        idle = Checks.laid("q2;u0,10,11;p0;w1,12;w1,14;");
        idle.take(0, 0);
        idle.pass(2);
        idle.walk(0, 0);
        works(idle, 0, 0);
        idle.pass(1);
        works(idle, 1, 0);
        CHECKS.due("count(7)", idle.count(7), 1);
        idle.pass(3);
        works(idle, 1, 0);
        stillDoesNone();
    }

    private static void stillDoesNone() {
        ParasolHours x = Checks.laid("q3;u0,0,0;p1;w1,12;");
        x.pass(1);
        CHECKS.due("count(5)", x.count(5), 1);
        x = Checks.laid("q3;u0,14,12;p0;p0;p1;w2,12;w1,12;");
        x.take(0, 0);
        x.share(1, 0);
        x.walk(0, 0);
        x.pass(1);
        x.pass(1);
        CHECKS.due("count(7)", x.count(7), 3);
        x.give(1);
        x.share(2, 0);
        x.walk(2, 0);
        CHECKS.due("person(0, 3)", x.person(0, 3), 0);
        x.pass(1);
        works(x, 1, 1);
    }

    private static void passAppointments() {
        CHECKS.promise("14 pass: appointments");
        ParasolHours x = Checks.laid("q3;u0,9,0;u0,9,12;u0,9,3;u0,10,0;u0,9,0;p0;p0;p0;p0;p0;");
        for (int p = 0; p < 4; p++) {
            x.take(p, p);
        }
        x.share(4, 0);
        x.pass(1);
        CHECKS.due("count(6): three of one HOUR are three pairs", x.count(6), 3);
        x.walk(2, 0);
        x.pass(1);
        CHECKS.due("count(6): worn ones too", x.count(6), 4);
        x.walk(0, 0);
        x.pass(1);
        CHECKS.due("count(6)", x.count(6), 5);
        CHECKS.due("person(4, 0)", x.person(4, 0), 1);
        x.walk(1, 0);
        x.pass(1);
        CHECKS.due("count(6)", x.count(6), 8);
        CHECKS.due("count(7)", x.count(7), 1);
        x.pass(1);
        CHECKS.due("count(6): with one that is STILL", x.count(6), 11);
        // Of one HOUR ahead of the HOUR's end, not behind it.
        ParasolHours order = Checks.laid("q3;u3,9,0;u0,10,0;p0;p0;");
        order.take(0, 0);
        order.take(1, 1);
        order.pass(1);
        CHECKS.due("count(6)", order.count(6), 0);
        order.pass(1);
        CHECKS.due("count(6)", order.count(6), 1);
        order.pass(1);
        CHECKS.due("count(6)", order.count(6), 1);
        ParasolHours stand = Checks.laid("q3;u0,9,0;u0,9,0;p0;p0;");
        stand.take(0, 0);
        stand.pass(1);
        CHECKS.due("count(6): one in the stand", stand.count(6), 0);
    }

    private static void passStill() {
        CHECKS.promise("14 pass: STILL");
        ParasolHours x = Checks.laid("q3;u0,9,11;u1,9,12;p0;p0;p0;p1;");
        x.take(0, 0);
        x.take(1, 1);
        x.walk(0, 0);
        x.walk(1, 0);
        x.pass(1);
        CHECKS.due("count(7)", x.count(7), 1);
        CHECKS.due("person(3, 3)", x.person(3, 3), 1);
        CHECKS.due("person(1, 4), worn by 13 now", x.person(1, 4), 0);
        CHECKS.due("person(0, 4), worn by 12 now", x.person(0, 4), 1);
        x.pass(1);
        CHECKS.due("person(0, 3)", x.person(0, 3), 0);
        CHECKS.due("person(1, 3)", x.person(1, 3), 1);
        x.pass(1);
        CHECKS.due("person(0, 3)", x.person(0, 3), 1);
        CHECKS.due("person(2, 3), on square 0", x.person(2, 3), 0);
        CHECKS.due("count(7)", x.count(7), 3);
    }

    private static void passTurns() {
        CHECKS.promise("14 pass: HOURS");
        ParasolHours x = Checks.laid("q3;u0,23,0;u1,22,0;u2,23,0;u3,22,0;u3,23,0;p0;p0;p0;p0;p0;");
        for (int p = 0; p < 5; p++) {
            x.take(p, p);
        }
        int[][] wants = {{0, 23, 0, 0, 1}, {1, 0, 0, 2, 3}, {2, 1, 1, 4, 5}, {3, 2, 1, 6, 7}};
        for (int[] hours : wants) {
            x.pass(1);
            for (int u = 0; u < 5; u++) {
                CHECKS.due("parasol(" + u + ", 1)", x.parasol(u, 1), hours[u]);
            }
        }
        // Even are the HOURS gone by, not those under a PARASOL, nor those since it was taken.
        ParasolHours late = Checks.laid("q3;u2,10,0;p0;");
        late.pass(1);
        late.take(0, 0);
        late.pass(1);
        CHECKS.due("parasol(0, 1)", late.parasol(0, 1), 10);
        late.pass(1);
        CHECKS.due("parasol(0, 1)", late.parasol(0, 1), 11);
        late.give(0);
        late.pass(3);
        CHECKS.due("parasol(0, 1)", late.parasol(0, 1), 11);
    }

    private static void passWears() {
        CHECKS.promise("14 pass: WORN");
        ParasolHours x = Checks.laid("q3;u0,0,5;u1,0,5;u2,0,5;u3,0,5;u0,0,5;p0;p0;p0;p0;");
        for (int p = 0; p < 4; p++) {
            x.take(p, p);
        }
        int[][] wants = {{6, 6, 6, 6, 5}, {7, 6, 7, 7, 5}, {8, 7, 8, 8, 5}};
        for (int[] worn : wants) {
            x.pass(1);
            for (int u = 0; u < 5; u++) {
                CHECKS.due("parasol(" + u + ", 2)", x.parasol(u, 2), worn[u]);
            }
        }
        x.pass(11);
        CHECKS.due("parasol(0, 2)", x.parasol(0, 2), 19);
        CHECKS.due("parasol(1, 2)", x.parasol(1, 2), 12);
        x.pass(24);
        CHECKS.due("parasol(0, 2)", x.parasol(0, 2), 20);
        CHECKS.due("parasol(1, 2)", x.parasol(1, 2), 20);
        CHECKS.due("parasol(2, 2)", x.parasol(2, 2), 20);
        CHECKS.due("parasol(3, 2)", x.parasol(3, 2), 20);
        CHECKS.due("parasol(4, 2)", x.parasol(4, 2), 5);
    }

    private static void undo() {
        CHECKS.promise("15 undo");
        ParasolHours x = new ParasolHours();
        CHECKS.due("undo() of nothing", x.undo(), NO);
        String[] pictures = new String[13];
        for (int i = 0; i < 12; i++) {
            pictures[i] = Checks.scene(x);
            CHECKS.due("walk", x.walk(0, i < 5 ? 0 : i < 10 ? 1 : 0), i < 5 ? i + 1 : i < 10 ? 9 - i : i - 9);
            CHECKS.due("count(10)", x.count(10), Math.min(8, i + 1));
        }
        for (int i = 11; i >= 4; i--) {
            CHECKS.due("undo()", x.undo(), i - 4);
            CHECKS.holds("as it was ahead of act " + i, Checks.scene(x).equals(pictures[i]));
        }
        CHECKS.due("undo() of a ninth", x.undo(), NO);
        CHECKS.due("person(0, 0)", x.person(0, 0), 4);
        CHECKS.due("walk(0, 0)", x.walk(0, 0), 5);
        CHECKS.due("undo()", x.undo(), 0);
        CHECKS.due("person(0, 0)", x.person(0, 0), 4);
    }

    private static void undoOfEach() {
        CHECKS.promise("15 undo: of each act");
        ParasolHours x = Checks.laid("q3;u0,12,12;u1,12,3;p0;p0;p1;w1,12;w0,12;");
        String[] pictures = new String[9];
        pictures[0] = Checks.scene(x);
        x.take(0, 0);
        pictures[1] = Checks.scene(x);
        x.take(1, 1);
        pictures[2] = Checks.scene(x);
        x.pass(2);
        pictures[3] = Checks.scene(x);
        CHECKS.due("count(5)", x.count(5), 2);
        CHECKS.due("count(6)", x.count(6), 2);
        CHECKS.due("count(7)", x.count(7), 1);
        x.walk(0, 0);
        pictures[4] = Checks.scene(x);
        x.give(1);
        pictures[5] = Checks.scene(x);
        x.mend(1);
        pictures[6] = Checks.scene(x);
        CHECKS.due("share(2, 0)", x.share(2, 0), 0);
        pictures[7] = Checks.scene(x);
        x.walk(2, 0);
        x.see(3, 3);
        for (int i = 7; i >= 0; i--) {
            CHECKS.due("undo()", x.undo(), i);
            CHECKS.holds("as ahead of act " + i, Checks.scene(x).equals(pictures[i]));
            CHECKS.due("count(9): what is SEEN stays", x.count(9), 1);
        }
        CHECKS.due("count(4)", x.count(4), 0);
        CHECKS.due("undo()", x.undo(), NO);
    }

    private static void refusedActsAreNotUndone() {
        CHECKS.promise("15 undo: acts alone");
        ParasolHours x = Checks.laid("q3;u0,12,12;u1,12,3;p0;p0;p1;w1,12;w0,12;");
        x.take(2, 0);
        x.share(0, 1);
        x.give(0);
        x.walk(0, 1);
        x.mend(2);
        x.pass(0);
        x.until(0, 1);
        x.still(9);
        x.day(1, 60, 0);
        x.deal(-1);
        x.keep();
        x.see(1, 1);
        x.forget();
        Checks.write(x, "p0;");
        CHECKS.due("count(10)", x.count(10), 0);
        CHECKS.due("undo()", x.undo(), NO);
        CHECKS.due("take(0, 0)", x.take(0, 0), 12);
        CHECKS.due("undo()", x.undo(), 0);
        CHECKS.due("undo() behind the last", x.undo(), NO);
        CHECKS.due("count(12)", x.count(12), 3);
        CHECKS.due("count(11)", x.count(11), 1);
    }
}
