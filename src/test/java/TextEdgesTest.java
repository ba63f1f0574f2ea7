/** The boundary cases of Terms 1, sentence by sentence: what a TEXT is, FAULT, LAID; and of promises 1 to 5. */
public final class TextEdgesTest {
    private static final int NO = ParasolHours.NO, FULL = ParasolHours.FULL, NONE = ParasolHours.NONE;
    private static final Checks CHECKS = new Checks("TextEdgesTest");

    /** Each kind of ITEM with # for one of its numbers, the least and the greatest that may stand there. */
    private static final String[] ITEMS = {"q#;", "u#,1,1;", "u1,#,1;", "u1,1,#;", "p#;", "w#,1;", "w1,#;"};
    private static final int[] LEAST = {1, 0, 0, 0, 0, 0, 0};
    private static final int[] GREATEST = {9, 3, 23, 12, 5, 5, 23};

    public static void main(String[] args) {
        letters200();
        everyLetter();
        everyNumber();
        oneOrTwoFigures();
        squaresThatThereAre();
        squaresAhead();
        ofSeveralTheLast();
        sixFiveSix();
        theLargest();
        everySign();
        everyCut();
        theFirstFault();
        laidWithBoth();
        laidOfFull();
        atFirst();
        laidAfresh();
        laidAfreshByHand();
        CHECKS.end();
    }

    private static ParasolHours written(String text) {
        ParasolHours x = new ParasolHours();
        Checks.write(x, text);
        CHECKS.due("count(12) of " + text, x.count(12), text.length());
        return x;
    }

    private static void fault(String text, int want) {
        ParasolHours x = written(text);
        CHECKS.due("fault() of " + text, x.fault(), want);
        CHECKS.due("fault() once more of " + text, x.fault(), want);
    }

    private static void letters200() {
        CHECKS.promise("200 letters at most");
        ParasolHours x = new ParasolHours();
        for (int i = 1; i <= 200; i++) {
            CHECKS.due("write of letter " + i, x.write(32 + i % 95), i);
        }
        for (int i = 0; i < 3; i++) {
            CHECKS.due("write of letter 201", x.write(32 + i), FULL);
            CHECKS.due("count(12)", x.count(12), 200);
        }
        CHECKS.due("wipe()", x.wipe(), 200);
        CHECKS.due("write behind wipe()", x.write(32), 1);
    }

    private static void everyLetter() {
        CHECKS.promise("a letter is 32 to 126");
        for (int letter = -300; letter <= 600; letter++) {
            ParasolHours x = new ParasolHours();
            boolean told = letter >= 32 && letter <= 126;
            CHECKS.due("write(" + letter + ")", x.write(letter), told ? 1 : ParasolHours.BAD);
            CHECKS.due("count(12)", x.count(12), told ? 1 : 0);
            CHECKS.due("fault()", x.fault(), told ? 0 : NONE);
        }
    }

    private static void everyNumber() {
        CHECKS.promise("each number of an ITEM");
        for (int i = 0; i < ITEMS.length; i++) {
            for (int number = 0; number <= 99; number++) {
                boolean told = number >= LEAST[i] && number <= GREATEST[i];
                fault(ITEMS[i].replace("#", "" + number), told ? NONE : 0);
                fault("q6;" + ITEMS[i].replace("#", "" + number), told ? NONE : 3);
            }
        }
    }

    private static void oneOrTwoFigures() {
        CHECKS.promise("one or two figures");
        String[] none = {"", "001", "010", "100", "0001", "+1", "-1", " 1", "1 ", "1.", "a", "1a", "0x1", "/", ":"};
        for (String item : ITEMS) {
            fault(item.replace("#", "1"), NONE);
            fault(item.replace("#", "01"), NONE);
            for (String number : none) {
                fault(item.replace("#", number), 0);
                fault("q3;q6;" + item.replace("#", number), 6);
            }
        }
    }

    private static void squaresThatThereAre() {
        CHECKS.promise("SQUARES such as there are");
        for (int many = 1; many <= 9; many++) {
            for (int x = 0; x <= 12; x++) {
                fault("q" + many + ";p" + x + ";", x < many ? NONE : 3);
                fault("q" + many + ";w" + x + ",0;", x < many ? NONE : 3);
            }
            ParasolHours x = Checks.laid("q" + many + ";u0,0,0;p" + (many - 1) + ";w" + (many - 1) + ",5;");
            CHECKS.due("count(0)", x.count(0), many);
            CHECKS.due("person(0, 0)", x.person(0, 0), many - 1);
            CHECKS.due("work(0, 0)", x.work(0, 0), many - 1);
            CHECKS.due("walk right at the end", x.walk(0, 0), NO);
        }
        for (int x = 0; x <= 12; x++) {
            fault("p" + x + ";", x < 6 ? NONE : 0);
            fault("w" + x + ",0;", x < 6 ? NONE : 0);
        }
    }

    private static void squaresAhead() {
        CHECKS.promise("no other ITEM ahead of q but q");
        String[] others = {"u0,0,0;", "p0;", "w0,0;"};
        for (String other : others) {
            fault(other + "q6;", other.length());
            fault("q6;" + other + "q6;", 3 + other.length());
            fault("q1;q9;" + other, NONE);
        }
        fault("q6;".repeat(20), NONE);
        fault("q6;".repeat(20) + "p0;q6;", 63);
    }

    private static void ofSeveralTheLast() {
        CHECKS.promise("of several q the last one counts");
        fault("q9;q1;p0;", NONE);
        fault("q9;q1;p1;", 6);
        fault("q1;q9;p8;", NONE);
        fault("q1;q9;p9;", 6);
        fault("q1;q1;q4;w3,0;", NONE);
        fault("q1;q1;q4;w4,0;", 9);
        CHECKS.due("count(0)", Checks.laid("q9;q1;q4;u0,0,0;p3;").count(0), 4);
        CHECKS.due("count(0)", Checks.laid("q4;q4;q1;u0,0,0;p0;").count(0), 1);
        // Those of a TEXT ahead count no more.
        ParasolHours x = Checks.laid("q9;u0,0,0;p8;");
        Checks.write(x, "u0,0,0;p6;");
        CHECKS.due("fault()", x.fault(), 7);
        CHECKS.due("lay()", x.lay(), NO);
        CHECKS.due("count(0)", x.count(0), 9);
        Checks.write(x, "u0,0,0;p5;");
        CHECKS.due("lay()", x.lay(), 1);
        CHECKS.due("count(0)", x.count(0), 6);
    }

    private static void sixFiveSix() {
        CHECKS.promise("6, 5 and 6 at most");
        String[] items = {"u0,0,0;", "p0;", "w0,0;"};
        int[] most = {6, 5, 6};
        for (int i = 0; i < items.length; i++) {
            for (int many = 1; many <= most[i]; many++) {
                ParasolHours x = Checks.laid((i == 0 ? "" : "u0,0,0;") + (i == 1 ? "" : "p0;") + items[i].repeat(many));
                CHECKS.due("count of " + many + " " + items[i], x.count(i + 1), many);
            }
            for (int more = 1; more <= 3; more++) {
                fault(items[i].repeat(most[i] + more), items[i].length() * most[i]);
            }
        }
        // Behind the last of a kind those of other kinds may come.
        fault("u0,0,0;".repeat(6) + "w1,1;p1;u0,0,0;", 42 + 8);
        fault("p0;".repeat(5) + "w1,1;u1,1,1;p0;", 15 + 12);
        fault("w0,0;".repeat(6) + "u1,1,1;p1;w0,0;", 30 + 10);
        fault("u0,0,0;".repeat(6) + "p0;".repeat(5) + "w0,0;".repeat(6), NONE);
        fault("u0,0,0;".repeat(6) + "p0;".repeat(5) + "w0,0;".repeat(6) + "p0;", 87);
        fault("w0,0;".repeat(6) + "p0;".repeat(5) + "u0,0,0;".repeat(6) + "w0,0;", 87);
        fault("p0;w0,0;u0,0,0;".repeat(5) + "u0,0,0;w0,0;", NONE);
        fault("p0;w0,0;u0,0,0;".repeat(6), 75);
    }

    private static void theLargest() {
        CHECKS.promise("all that there can be at one time");
        int[][] parasols = {{3, 23, 12}, {2, 22, 11}, {1, 21, 10}, {0, 20, 9}, {3, 19, 8}, {2, 18, 7}};
        int[] persons = {8, 7, 0, 6, 5};
        int[][] works = {{8, 23}, {7, 22}, {6, 21}, {5, 20}, {4, 19}, {3, 18}};
        StringBuilder text = new StringBuilder("q9;");
        for (int i = 0; i < 6; i++) {
            text.append('w').append(works[i][0]).append(',').append(works[i][1]).append(';');
            text.append('u').append(parasols[i][0]).append(',').append(parasols[i][1]).append(',');
            text.append(parasols[i][2]).append(';');
            text.append(i < 5 ? "p" + persons[i] + ";" : "");
        }
        ParasolHours x = Checks.laid(text.toString());
        for (int i = 0; i < 6; i++) {
            for (int what = 0; what < 3; what++) {
                CHECKS.due("parasol(" + i + ", " + what + ")", x.parasol(i, what), parasols[i][what]);
            }
            CHECKS.due("work(" + i + ", 0)", x.work(i, 0), works[i][0]);
            CHECKS.due("work(" + i + ", 1)", x.work(i, 1), works[i][1]);
            CHECKS.due("person(" + i + ", 0)", x.person(i, 0), i < 5 ? persons[i] : ParasolHours.BAD);
        }
        CHECKS.due("parasol(6, 0)", x.parasol(6, 0), ParasolHours.BAD);
        CHECKS.due("work(6, 0)", x.work(6, 0), ParasolHours.BAD);
    }

    /** Each letter of a sound TEXT in turn by each other one, against the TEXT told once more, by a pattern. */
    private static void everySign() {
        CHECKS.promise("each letter in each place");
        String text = "q3;u1,2,3;p2;w0,19;p1;";
        for (int place = 0; place < text.length(); place++) {
            for (char letter = 32; letter <= 126; letter++) {
                String other = text.substring(0, place) + letter + text.substring(place + 1);
                SlowParasols y = new SlowParasols();
                for (char each : other.toCharArray()) {
                    y.write(each);
                }
                ParasolHours x = written(other);
                CHECKS.due("fault() of " + other, x.fault(), y.fault());
                CHECKS.due("lay() of " + other, x.lay(), y.lay());
                CHECKS.due("count(0)", x.count(0), y.count(0));
            }
        }
    }

    /** A TEXT that ends anywhere: what is unended is the fault. */
    private static void everyCut() {
        CHECKS.promise("a ; behind the last number");
        String text = Checks.FIRST;
        for (int end = 0; end <= text.length(); end++) {
            int last = text.lastIndexOf(';', end - 1) + 1;
            fault(text.substring(0, end), last == end ? NONE : last);
        }
    }

    private static void theFirstFault() {
        CHECKS.promise("FAULT: of the first ITEM that is not so");
        fault("p9;u9,0,0;", 0);
        fault("p0;u9,0,0;p9;", 3);
        fault("p0;p0;w1,24;x", 6);
        fault("p0;x;p9;", 3);
        fault("q2;p2;q3;", 3);
        // Its place is that of its first letter, not of the number that is not so.
        fault("p0;u0,0,13;", 3);
        fault("u0,0,0;w5,24;", 7);
        fault("q1;".repeat(65) + "p1;", 195);
        fault("q1;".repeat(66) + "p", 198);
        fault("q1;".repeat(66) + "p0", 198);
        fault("q01;".repeat(49) + "x", 196);
        fault("q01;".repeat(49) + "p0;x", 199);
    }

    private static void laidWithBoth() {
        CHECKS.promise("LAID: a PARASOL and a PERSON at least");
        String[] refused = {"", "q1;", "q9;q9;", "u0,0,0;", "p0;", "w0,0;", "u0,0,0;w0,0;", "p0;w0,0;",
            "u0,0,0;".repeat(6), "p0;".repeat(5), "w0,0;".repeat(6), "u0,0,0;p0;x", "xu0,0,0;p0;", "u0,0,0;p0"};
        for (String text : refused) {
            ParasolHours x = written(text);
            String before = Checks.picture(x);
            CHECKS.due("lay() of " + text, x.lay(), NO);
            CHECKS.holds("nothing changes by " + text, Checks.picture(x).equals(before));
        }
        String[] laid = {"u0,0,0;p0;", "p0;u0,0,0;", "q1;u0,0,0;p0;", "w0,0;p0;w0,0;u0,0,0;"};
        for (String text : laid) {
            ParasolHours x = written(text);
            CHECKS.due("lay() of " + text, x.lay(), 1);
            CHECKS.due("count(1)", x.count(1), 1);
            CHECKS.due("count(12): THE TEXT stays", x.count(12), text.length());
        }
        for (int many = 1; many <= 5; many++) {
            CHECKS.due("lay()", written("u0,0,0;" + "p0;".repeat(many)).lay(), many);
        }
    }

    private static void laidOfFull() {
        CHECKS.promise("LAID: of 200 letters");
        String text = "q9;".repeat(62) + "u0,0,0;p0;p08;";
        ParasolHours x = written(text);
        CHECKS.due("count(12)", x.count(12), 200);
        CHECKS.due("write(';')", x.write(';'), FULL);
        CHECKS.due("fault()", x.fault(), NONE);
        CHECKS.due("lay()", x.lay(), 2);
        CHECKS.due("person(1, 0)", x.person(1, 0), 8);
        CHECKS.due("count(12)", x.count(12), 200);
    }

    private static void atFirst() {
        CHECKS.promise("at first nobody is under a PARASOL, nobody STILL, no WORK done");
        String[] texts = {Checks.FIRST, "q1;u0,12,12;p0;w0,12;", "q9;u0,12,0;p8;p0;w8,12;w0,12;"};
        for (String text : texts) {
            ParasolHours x = Checks.laid(text);
            for (int u = 0; u < x.count(1); u++) {
                CHECKS.due("parasol(" + u + ", 3)", x.parasol(u, 3), 0);
                CHECKS.due("parasol(" + u + ", 4)", x.parasol(u, 4), 0);
            }
            for (int p = 0; p < x.count(2); p++) {
                int square = x.person(p, 0);
                CHECKS.due("person(" + p + ", 1)", x.person(p, 1), NONE);
                CHECKS.due("person(" + p + ", 2)", x.person(p, 2), square == 0 ? NONE : 12);
                CHECKS.due("person(" + p + ", 3)", x.person(p, 3), 0);
                CHECKS.due("person(" + p + ", 4)", x.person(p, 4), square == 0 ? 1 : 0);
            }
            for (int w = 0; w < x.count(3); w++) {
                CHECKS.due("work(" + w + ", 2)", x.work(w, 2), 0);
            }
            CHECKS.due("count(8)", x.count(8), x.count(1));
            for (int what : new int[] {4, 5, 6, 7, 9, 10, 11}) {
                CHECKS.due("count(" + what + ")", x.count(what), 0);
            }
        }
    }

    private static final String LARGEST = "q9;u0,0,12;u1,0,12;u2,12,12;u3,0,12;u0,0,12;u0,12,12;"
        + "p1;p1;p0;p0;p1;w1,12;w1,12;w0,0;w1,0;w1,1;w1,12;";

    /** What was laid, done and asked ahead of lay() is nowhere to be seen behind it. */
    private static void laidAfresh() {
        CHECKS.promise("LAID: nothing of what stood ahead");
        String[] texts = {"q2;u0,0,0;p0;w1,12;", "q2;u0,0,0;p0;", "q1;u0,12,12;p0;p0;w0,12;", "u2,5,5;p1;w1,12;",
            "q3;u0,7,0;u0,0,0;p2;p1;p0;w2,12;w0,0;", Checks.FIRST, LARGEST};
        for (String text : texts) {
            ParasolHours fresh = Checks.laid(text);
            ParasolHours again = Checks.laid(LARGEST);
            again.take(2, 5);
            again.share(3, 2);
            again.walk(3, 0);
            again.see(3, 3);
            again.keep();
            again.pass(3);
            answers(again);
            Checks.write(again, text);
            again.lay();
            for (int round = 0; round < 3; round++) {
                CHECKS.holds("alike in " + text + " round " + round, answers(again).equals(answers(fresh)));
                for (ParasolHours x : new ParasolHours[] {fresh, again}) {
                    x.take(0, 0);
                    x.walk(0, round % 2);
                    x.pass(1);
                }
            }
        }
    }

    /** All that can be asked, in one line. */
    private static String answers(ParasolHours x) {
        StringBuilder all = new StringBuilder(Checks.picture(x));
        for (int i = -1; i < 6; i++) {
            all.append(x.deal(i)).append(' ').append(x.soonest(i, 0)).append(' ').append(x.soonest(i, 1)).append(' ');
            all.append(x.agree(i, 0)).append(' ').append(x.agree(i, 5)).append(' ').append(x.set(i)).append(' ');
            for (int h = 0; h < 24; h++) {
                all.append(x.until(i, h)).append(' ').append(x.flecks(i, h, 5, 3, 0)).append(' ');
            }
        }
        for (int n = 0; n <= 48; n++) {
            all.append(x.make(n)).append(' ').append(x.still(n)).append(' ');
            all.append(x.day(97 * n, 1 + n, 0)).append(' ').append(x.day(97 * n, 1 + n, 1)).append(' ');
        }
        return all.append(x.which()).toString();
    }

    private static void laidAfreshByHand() {
        CHECKS.promise("LAID: PERSONS, WORKS, PARASOLS of the TEXT ahead are no more");
        ParasolHours x = Checks.laid(LARGEST);
        CHECKS.due("deal(-1)", x.deal(-1), 5);
        Checks.write(x, "q2;u0,0,0;p0;w1,12;");
        CHECKS.due("lay()", x.lay(), 1);
        CHECKS.due("deal(-1): nobody is on SQUARE 1", x.deal(-1), 0);
        CHECKS.due("deal(0)", x.deal(0), 0);
        x.take(0, 0);
        CHECKS.due("pass(1)", x.pass(1), 1);
        CHECKS.due("count(5): nobody is on SQUARE 1, and no WORK is at 0", x.count(5), 0);
        CHECKS.due("count(6)", x.count(6), 0);
        CHECKS.due("count(7)", x.count(7), 0);
        CHECKS.due("count(8)", x.count(8), 0);
        CHECKS.due("still(48)", x.still(48), 0);
        CHECKS.due("which()", x.which(), 1);
        CHECKS.due("make(12)", x.make(12), NONE);
        CHECKS.due("make(1)", x.make(1), 1);
    }
}
