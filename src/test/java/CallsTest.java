import java.util.Random;

/** What it is: each of the 512 calls for which an object is used answers as is due, the last one as the first. */
public final class CallsTest {
    private static final int CALLS = 512;
    private static final int NO = ParasolHours.NO, FULL = ParasolHours.FULL, NONE = ParasolHours.NONE;
    private static final Checks CHECKS = new Checks("CallsTest");

    public static void main(String[] args) {
        hours();
        appointments();
        walks();
        letters();
        texts();
        seen();
        kept();
        for (int seed = 0; seed < 300; seed++) {
            mixed(seed);
        }
        CHECKS.end();
    }

    private static void hours() {
        CHECKS.promise("512 calls: all of them hours");
        ParasolHours x = new ParasolHours();
        for (int call = 1; call <= CALLS; call++) {
            CHECKS.due("pass(24), call " + call, x.pass(24), 24 * call);
        }
    }

    /** The most APPOINTMENTS that there can be: each two of five PARASOLS, as many HOURS as calls allow. */
    private static void appointments() {
        CHECKS.promise("512 calls: appointments");
        for (int kind = 0; kind < 4; kind++) {
            ParasolHours x = new ParasolHours();
            int calls = write(x, ("u" + kind + ",23,0;").repeat(5) + "p0;p0;p0;p0;p0;") + 1;
            CHECKS.due("lay", x.lay(), 5);
            for (int p = 0; p < 5; p++) {
                CHECKS.due("take", x.take(p, p), 23);
                calls++;
            }
            int gone = 0;
            while (calls < CALLS - 1) {
                gone += 24;
                CHECKS.due("pass(24)", x.pass(24), gone);
                calls++;
            }
            CHECKS.due("count(6) at last, kind " + kind, x.count(6), 10 * gone);
        }
    }

    private static int write(ParasolHours x, String text) {
        for (int i = 0; i < text.length(); i++) {
            CHECKS.due("write", x.write(text.charAt(i)), i + 1);
        }
        return text.length();
    }

    private static void walks() {
        CHECKS.promise("512 calls: walks, then all undone that can be");
        ParasolHours x = new ParasolHours();
        for (int call = 0; call < CALLS - 9; call++) {
            CHECKS.due("walk, call " + call, x.walk(0, call % 2), 1 - call % 2);
        }
        for (int more = 7; more >= 0; more--) {
            CHECKS.due("undo", x.undo(), more);
        }
        CHECKS.due("undo, the last call", x.undo(), NO);
    }

    private static void letters() {
        CHECKS.promise("512 calls: letters");
        ParasolHours x = new ParasolHours();
        for (int call = 1; call < CALLS; call++) {
            CHECKS.due("write, call " + call, x.write(';'), call <= 200 ? call : FULL);
        }
        CHECKS.due("wipe, the last call", x.wipe(), 200);
    }

    private static void texts() {
        CHECKS.promise("512 calls: texts laid again and again");
        ParasolHours x = new ParasolHours();
        int calls = write(x, "u3,0,0;p0;");
        while (calls + 4 <= CALLS) {
            CHECKS.due("lay", x.lay(), 1);
            CHECKS.due("take", x.take(0, 0), 0);
            CHECKS.due("pass", x.pass(3), 3);
            CHECKS.due("until", x.until(0, 5), NONE);
            calls += 4;
        }
    }

    private static void seen() {
        CHECKS.promise("512 calls: seen, forgotten");
        ParasolHours x = new ParasolHours();
        for (int calls = 0; calls + 8 <= CALLS; calls += 8) {
            for (int many = 1; many <= 7; many++) {
                CHECKS.due("see", x.see(many, many), many <= 6 ? many : FULL);
            }
            CHECKS.due("forget", x.forget(), 6);
        }
    }

    private static void kept() {
        CHECKS.promise("512 calls: kept, brought back");
        ParasolHours x = new ParasolHours();
        for (int calls = 0; calls + 8 <= CALLS; calls += 8) {
            CHECKS.due("keep", x.keep(), 1);
            CHECKS.due("pass", x.pass(1), 1);
            CHECKS.due("keep", x.keep(), 2);
            CHECKS.due("pass", x.pass(24), 25);
            CHECKS.due("keep", x.keep(), FULL);
            CHECKS.due("back", x.back(), 1);
            CHECKS.due("back", x.back(), 0);
            CHECKS.due("back", x.back(), NO);
        }
    }

    /** Just 512 calls: what is done, and behind each what may tell of it, against the document told slowly. */
    private static void mixed(int seed) {
        CHECKS.promise("512 calls: mixed by seed " + seed);
        Random random = new Random(seed);
        ParasolHours x = new ParasolHours();
        SlowParasols y = new SlowParasols();
        for (int call = 0; call < CALLS; call += 2) {
            int some = random.nextInt(6);
            int other = random.nextInt(6);
            act(random.nextInt(16), some, other, x, y);
            ask(random.nextInt(6), some, other, x, y);
        }
    }

    private static void act(int kind, int some, int other, ParasolHours x, SlowParasols y) {
        String with = " " + some + " " + other;
        switch (kind) {
            case 0, 1, 2 -> CHECKS.due("take" + with, x.take(some, other), y.take(some, other));
            case 3, 4 -> CHECKS.due("share" + with, x.share(some, other), y.share(some, other));
            case 5 -> CHECKS.due("give" + with, x.give(some), y.give(some));
            case 6, 7, 8, 9 -> CHECKS.due("walk" + with, x.walk(some, other % 2), y.walk(some, other % 2));
            case 10 -> CHECKS.due("mend" + with, x.mend(other), y.mend(other));
            case 11, 12, 13 -> CHECKS.due("pass" + with, x.pass(some + 1), y.pass(some + 1));
            case 14 -> CHECKS.due("undo", x.undo(), y.undo());
            default -> {
                boolean keep = some < 3;
                CHECKS.due(keep ? "keep" : "back", keep ? x.keep() : x.back(), keep ? y.keep() : y.back());
            }
        }
    }

    private static void ask(int kind, int some, int other, ParasolHours x, SlowParasols y) {
        String with = " " + some + " " + other;
        switch (kind) {
            case 0 -> CHECKS.due("parasol" + with, x.parasol(some, other), y.parasol(some, other));
            case 1 -> CHECKS.due("person" + with, x.person(some, other), y.person(some, other));
            case 2 -> CHECKS.due("work" + with, x.work(some, other % 3), y.work(some, other % 3));
            case 3 -> CHECKS.due("soonest" + with, x.soonest(some, other % 2), y.soonest(some, other % 2));
            case 4 -> CHECKS.due("still" + with, x.still(some * other), y.still(some * other));
            default -> CHECKS.due("count" + with, x.count(some + 5), y.count(some + 5));
        }
    }
}
