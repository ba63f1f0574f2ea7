/** Promises 1 to 8: texts, what they lay, and what can be asked of it. */
public final class DominionTest {
    private static final Checks CHECKS = new Checks("DominionTest");

    public static void main(String[] args) {
        newObject();
        write();
        wipe();
        faultsOfSquares();
        faultsOfParasols();
        faultsOfPersons();
        faultsOfWorks();
        faultsOfForm();
        lay();
        layForgets();
        layRefused();
        parasol();
        person();
        work();
        CHECKS.end();
    }

    private static void newObject() {
        CHECKS.promise("1 A new object");
        ParasolHours x = new ParasolHours();
        int[] counts = {6, 5, 4, 5, 0, 0, 0, 0, 5, 0, 0, 0, 0};
        for (int what = 0; what < counts.length; what++) {
            CHECKS.due("count(" + what + ")", x.count(what), counts[what]);
        }
        CHECKS.due("fault()", x.fault(), ParasolHours.NONE);
        CHECKS.due("lay()", x.lay(), ParasolHours.NO);
        CHECKS.due("undo()", x.undo(), ParasolHours.NO);
        CHECKS.due("back()", x.back(), ParasolHours.NO);
        int[][] parasols = {{0, 10, 2, 0, 0}, {1, 18, 0, 0, 0}, {2, 7, 4, 0, 0}, {3, 14, 1, 0, 0}, {0, 11, 8, 0, 0}};
        for (int u = 0; u < parasols.length; u++) {
            for (int what = 0; what < 5; what++) {
                CHECKS.due("parasol(" + u + ", " + what + ")", x.parasol(u, what), parasols[u][what]);
            }
        }
        int[] squares = {0, 0, 2, 0};
        for (int p = 0; p < squares.length; p++) {
            CHECKS.due("person(" + p + ", 0)", x.person(p, 0), squares[p]);
            CHECKS.due("person(" + p + ", 1)", x.person(p, 1), ParasolHours.NONE);
        }
        int[][] works = {{1, 13, 0}, {2, 19, 0}, {3, 10, 0}, {5, 15, 0}, {0, 12, 0}};
        for (int w = 0; w < works.length; w++) {
            for (int what = 0; what < 3; what++) {
                CHECKS.due("work(" + w + ", " + what + ")", x.work(w, what), works[w][what]);
            }
        }
        ParasolHours told = Checks.laid(Checks.FIRST);
        told.wipe();
        CHECKS.holds("as the document's text lays it", Checks.picture(told).equals(Checks.picture(x)));
    }

    private static void write() {
        CHECKS.promise("2 write");
        ParasolHours x = new ParasolHours();
        CHECKS.due("write(32)", x.write(32), 1);
        CHECKS.due("write(126)", x.write(126), 2);
        CHECKS.due("write(31)", x.write(31), ParasolHours.BAD);
        CHECKS.due("write(127)", x.write(127), ParasolHours.BAD);
        CHECKS.due("write(-1)", x.write(-1), ParasolHours.BAD);
        CHECKS.due("write(65536 + 'q')", x.write(65536 + 'q'), ParasolHours.BAD);
        CHECKS.due("write(least)", x.write(Integer.MIN_VALUE), ParasolHours.BAD);
        CHECKS.due("count(12)", x.count(12), 2);
        for (int i = 3; i <= 200; i++) {
            CHECKS.due("write('q')", x.write('q'), i);
        }
        CHECKS.due("write in a full text", x.write('q'), ParasolHours.FULL);
        CHECKS.due("write(31) in a full text", x.write(31), ParasolHours.BAD);
        CHECKS.due("count(12)", x.count(12), 200);
        CHECKS.due("fault()", x.fault(), 0);
    }

    private static void wipe() {
        CHECKS.promise("3 wipe");
        ParasolHours x = new ParasolHours();
        CHECKS.due("wipe() of none", x.wipe(), 0);
        Checks.write(x, "p9;");
        CHECKS.due("fault()", x.fault(), 0);
        CHECKS.due("wipe()", x.wipe(), 3);
        CHECKS.due("wipe() again", x.wipe(), 0);
        CHECKS.due("fault()", x.fault(), ParasolHours.NONE);
        CHECKS.due("write(112)", x.write('p'), 1);
        Checks.write(x, "x".repeat(200));
        CHECKS.due("wipe() of a full text", x.wipe(), 200);
        CHECKS.due("write(112)", x.write('p'), 1);
        CHECKS.due("count(2)", x.count(2), 4);
    }

    private static void fault(String text, int want) {
        ParasolHours x = new ParasolHours();
        String before = Checks.scene(x);
        Checks.write(x, text);
        CHECKS.due("fault() of " + text, x.fault(), want);
        CHECKS.holds("nothing changes by fault()", Checks.scene(x).equals(before));
        if (want != ParasolHours.NONE) {
            CHECKS.due("lay() of " + text, x.lay(), ParasolHours.NO);
        }
    }

    private static void sound(String text) {
        fault(text, ParasolHours.NONE);
    }

    private static void faultsOfSquares() {
        CHECKS.promise("4 fault: q");
        sound("");
        sound("q1;");
        sound("q9;");
        sound("q09;");
        sound("q3;q7;");
        fault("q0;", 0);
        fault("q00;", 0);
        fault("q10;", 0);
        fault("q3;q0;", 3);
        fault("p0;q3;", 3);
        fault("u0,0,0;q3;", 7);
        fault("w0,0;q3;", 5);
        fault("q3;p0;q3;", 6);
        fault("q3,3;", 0);
        fault("q;", 0);
        sound("q2;q9;p8;");
        fault("q9;q2;p2;", 6);
    }

    private static void faultsOfParasols() {
        CHECKS.promise("4 fault: u");
        sound("u0,0,0;u3,23,12;");
        sound("u03,09,07;");
        fault("u4,0,0;", 0);
        fault("u0,24,0;", 0);
        fault("u0,0,13;", 0);
        fault("u0,0,0;u1,1,13;", 7);
        fault("u0,0;", 0);
        fault("u0,0,0,0;", 0);
        fault("u0,,0;", 0);
        fault("u000,0,0;", 0);
        fault("u0,0,000;", 0);
        sound("u0,0,0;".repeat(6));
        fault("u0,0,0;".repeat(7), 42);
    }

    private static void faultsOfPersons() {
        CHECKS.promise("4 fault: p");
        sound("p0;p5;");
        sound("p00;p05;");
        fault("p6;", 0);
        sound("q9;p8;");
        fault("q9;p9;", 3);
        fault("q1;p1;", 3);
        sound("q1;p0;");
        fault("p0,0;", 0);
        fault("p000;", 0);
        fault("p-1;", 0);
        sound("p0;".repeat(5));
        fault("p0;".repeat(6), 15);
    }

    private static void faultsOfWorks() {
        CHECKS.promise("4 fault: w");
        sound("w0,0;w5,23;");
        fault("w6,0;", 0);
        fault("w0,24;", 0);
        fault("w0,99;", 0);
        fault("q3;w2,1;w3,1;", 8);
        fault("w1;", 0);
        fault("w1,1,1;", 0);
        sound("w0,0;".repeat(6));
        fault("w0,0;".repeat(7), 30);
    }

    private static void faultsOfForm() {
        CHECKS.promise("4 fault: form");
        fault("x", 0);
        fault("x0;", 0);
        fault("P0;", 0);
        fault(";", 0);
        fault(" p0;", 0);
        fault("p0; p0;", 3);
        fault("p 0;", 0);
        fault("p0 ;", 0);
        fault("p0", 0);
        fault("p0,", 0);
        fault("p", 0);
        fault("p0;p", 3);
        fault("p0;;", 3);
        fault("p0;u0,1,2", 3);
        fault("p0:", 0);
        fault("p/;", 0);
        sound(Checks.FIRST);
        fault(Checks.FIRST + "q6;", Checks.FIRST.length());
        String long200 = "q1;".repeat(66) + "p0";
        fault(long200, 198);
        sound("q1;".repeat(65) + "q01;");
        ParasolHours x = new ParasolHours();
        Checks.write(x, "p0;u9");
        x.wipe();
        Checks.write(x, "u0,1,1;p0;");
        CHECKS.due("fault() behind a faulty text", x.fault(), ParasolHours.NONE);
        CHECKS.due("fault() once more", x.fault(), ParasolHours.NONE);
        CHECKS.due("lay()", x.lay(), 1);
    }

    private static void lay() {
        CHECKS.promise("5 lay");
        ParasolHours x = new ParasolHours();
        Checks.write(x, "q9;q3;u3,23,12;u1,5,0;p2;p0;w2,9;");
        CHECKS.due("lay()", x.lay(), 2);
        int[] counts = {3, 2, 2, 1, 0, 0, 0, 0, 2, 0, 0, 0, 33};
        for (int what = 0; what < counts.length; what++) {
            CHECKS.due("count(" + what + ")", x.count(what), counts[what]);
        }
        CHECKS.due("parasol(0, 0)", x.parasol(0, 0), 3);
        CHECKS.due("parasol(0, 1)", x.parasol(0, 1), 23);
        CHECKS.due("parasol(0, 2)", x.parasol(0, 2), 12);
        CHECKS.due("parasol(1, 1)", x.parasol(1, 1), 5);
        CHECKS.due("person(0, 0)", x.person(0, 0), 2);
        CHECKS.due("person(1, 0)", x.person(1, 0), 0);
        CHECKS.due("work(0, 0)", x.work(0, 0), 2);
        CHECKS.due("work(0, 1)", x.work(0, 1), 9);
        CHECKS.due("work(1, 0)", x.work(1, 0), ParasolHours.BAD);
        CHECKS.due("lay() again", x.lay(), 2);
        Checks.write(x, "p05;u0,00,00;");
        CHECKS.due("lay() without squares", x.lay(), 1);
        CHECKS.due("count(0)", x.count(0), 6);
        CHECKS.due("count(3)", x.count(3), 0);
        CHECKS.due("person(0, 0)", x.person(0, 0), 5);
    }

    private static void layForgets() {
        CHECKS.promise("5 lay: HOUR 0, nothing SEEN, UNDONE, KEPT");
        String text = "u2,12,12;u0,3,0;p0;p1;w1,12;";
        ParasolHours fresh = Checks.laid(text);
        ParasolHours x = Checks.laid(text);
        x.take(0, 0);
        x.walk(0, 0);
        x.keep();
        x.see(4, 1);
        x.pass(3);
        CHECKS.holds("it differs", !Checks.picture(x).equals(Checks.picture(fresh)));
        CHECKS.due("count(7)", x.count(7), 3 - 1);
        CHECKS.due("lay()", x.lay(), 2);
        CHECKS.holds("as at first", Checks.picture(x).equals(Checks.picture(fresh)));
        CHECKS.due("undo()", x.undo(), ParasolHours.NO);
        CHECKS.due("back()", x.back(), ParasolHours.NO);
        CHECKS.due("forget()", x.forget(), 0);
        CHECKS.due("until(0, 13) in HOUR 0", x.until(0, 13), 1);
    }

    private static void layRefused() {
        CHECKS.promise("5 lay: NO");
        String[] texts = {"", "q3;", "p0;", "u0,0,0;", "u0,0,0;w0,0;", "p0;w0,0;", "u0,0,0;p6;", "p0;u0,0,0;x"};
        for (String text : texts) {
            ParasolHours x = new ParasolHours();
            x.take(0, 1);
            x.keep();
            x.pass(2);
            x.see(1, 1);
            Checks.write(x, text);
            String before = Checks.picture(x);
            CHECKS.due("lay() of " + text, x.lay(), ParasolHours.NO);
            CHECKS.holds("nothing changes by " + text, Checks.picture(x).equals(before));
        }
    }

    private static void parasol() {
        CHECKS.promise("6 parasol");
        ParasolHours x = Checks.laid("q3;u2,7,4;u1,23,12;p0;p0;p1;");
        x.take(1, 1);
        CHECKS.due("parasol(1, 3)", x.parasol(1, 3), 2);
        CHECKS.due("parasol(1, 4)", x.parasol(1, 4), 0);
        x.walk(1, 0);
        x.share(2, 1);
        CHECKS.due("parasol(1, 3)", x.parasol(1, 3), 6);
        CHECKS.due("parasol(1, 4)", x.parasol(1, 4), 1);
        x.give(1);
        x.walk(2, 0);
        CHECKS.due("parasol(1, 3)", x.parasol(1, 3), 4);
        CHECKS.due("parasol(1, 4)", x.parasol(1, 4), 2);
        CHECKS.due("parasol(1, 0)", x.parasol(1, 0), 1);
        CHECKS.due("parasol(1, 1)", x.parasol(1, 1), 23);
        CHECKS.due("parasol(1, 2)", x.parasol(1, 2), 12);
        CHECKS.due("parasol(0, 3)", x.parasol(0, 3), 0);
        CHECKS.due("parasol(0, 4)", x.parasol(0, 4), 0);
        x.take(0, 0);
        x.walk(0, 0);
        CHECKS.due("parasol(0, 3)", x.parasol(0, 3), 1);
        CHECKS.due("parasol(0, 4)", x.parasol(0, 4), 1);
        CHECKS.due("parasol(-1, 0)", x.parasol(-1, 0), ParasolHours.BAD);
        CHECKS.due("parasol(2, 0)", x.parasol(2, 0), ParasolHours.BAD);
        CHECKS.due("parasol(0, -1)", x.parasol(0, -1), ParasolHours.BAD);
        CHECKS.due("parasol(0, 5)", x.parasol(0, 5), ParasolHours.BAD);
        CHECKS.due("parasol(greatest, 0)", x.parasol(Integer.MAX_VALUE, 0), ParasolHours.BAD);
    }

    private static void person() {
        CHECKS.promise("7 person");
        ParasolHours x = Checks.laid("q3;u0,7,12;p0;p0;p1;");
        persons(x, 0, 0, ParasolHours.NONE, ParasolHours.NONE, 0, 1);
        persons(x, 2, 1, ParasolHours.NONE, 12, 0, 0);
        x.take(0, 0);
        persons(x, 0, 0, 0, 7, 0, 1);
        x.walk(0, 0);
        persons(x, 0, 1, 0, 7, 0, 1);
        x.pass(1);
        persons(x, 0, 1, 0, 12, 0, 0);
        persons(x, 2, 1, ParasolHours.NONE, 12, 1, 0);
        x.walk(0, 1);
        persons(x, 0, 0, 0, 12, 0, 1);
        x.pass(1);
        persons(x, 0, 0, 0, 12, 0, 1);
        CHECKS.due("person(-1, 0)", x.person(-1, 0), ParasolHours.BAD);
        CHECKS.due("person(3, 0)", x.person(3, 0), ParasolHours.BAD);
        CHECKS.due("person(0, -1)", x.person(0, -1), ParasolHours.BAD);
        CHECKS.due("person(0, 5)", x.person(0, 5), ParasolHours.BAD);
        CHECKS.due("person(least, 0)", x.person(Integer.MIN_VALUE, 0), ParasolHours.BAD);
    }

    private static void persons(ParasolHours x, int p, int... wants) {
        for (int what = 0; what < wants.length; what++) {
            CHECKS.due("person(" + p + ", " + what + ")", x.person(p, what), wants[what]);
        }
    }

    private static void work() {
        CHECKS.promise("8 work");
        ParasolHours x = Checks.laid("q3;u0,7,12;p1;w1,12;w1,11;w2,12;");
        CHECKS.due("work(0, 2)", x.work(0, 2), 0);
        x.pass(1);
        CHECKS.due("work(0, 0)", x.work(0, 0), 1);
        CHECKS.due("work(0, 1)", x.work(0, 1), 12);
        CHECKS.due("work(0, 2)", x.work(0, 2), 1);
        CHECKS.due("work(1, 2)", x.work(1, 2), 0);
        CHECKS.due("work(2, 0)", x.work(2, 0), 2);
        CHECKS.due("work(2, 2)", x.work(2, 2), 0);
        CHECKS.due("work(3, 0)", x.work(3, 0), ParasolHours.BAD);
        CHECKS.due("work(-1, 0)", x.work(-1, 0), ParasolHours.BAD);
        CHECKS.due("work(0, -1)", x.work(0, -1), ParasolHours.BAD);
        CHECKS.due("work(0, 3)", x.work(0, 3), ParasolHours.BAD);
    }
}
