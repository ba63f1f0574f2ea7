/** Promises 22 to 25: what was seen, and of which parasol it can be. */
public final class SeenTest {
    private static final int BAD = ParasolHours.BAD, FULL = ParasolHours.FULL;
    private static final int ALL_HOURS = (1 << 24) - 1;
    private static final Checks CHECKS = new Checks("SeenTest");

    public static void main(String[] args) {
        see();
        forget();
        which();
        whichAsItStandsNow();
        set();
        setOfAll();
        seenStays();
        CHECKS.end();
    }

    private static void see() {
        CHECKS.promise("22 see");
        ParasolHours x = new ParasolHours();
        CHECKS.due("see(-1, 0)", x.see(-1, 0), BAD);
        CHECKS.due("see(24, 0)", x.see(24, 0), BAD);
        CHECKS.due("see(0, -1)", x.see(0, -1), BAD);
        CHECKS.due("see(0, 31)", x.see(0, 31), BAD);
        CHECKS.due("count(9)", x.count(9), 0);
        CHECKS.due("see(0, 0)", x.see(0, 0), 1);
        CHECKS.due("see(23, 30)", x.see(23, 30), 2);
        for (int i = 3; i <= 6; i++) {
            CHECKS.due("see(1, 1)", x.see(1, 1), i);
        }
        CHECKS.due("see of a seventh", x.see(1, 1), FULL);
        CHECKS.due("see(24, 0) when full", x.see(24, 0), BAD);
        CHECKS.due("see(0, 31) when full", x.see(0, 31), BAD);
        CHECKS.due("count(9)", x.count(9), 6);
        CHECKS.due("count(10)", x.count(10), 0);
    }

    private static void forget() {
        CHECKS.promise("23 forget");
        ParasolHours x = new ParasolHours();
        CHECKS.due("forget() of nothing", x.forget(), 0);
        x.see(3, 3);
        x.see(3, 4);
        CHECKS.due("which()", x.which(), 0);
        CHECKS.due("forget()", x.forget(), 2);
        CHECKS.due("count(9)", x.count(9), 0);
        CHECKS.due("which()", x.which(), 31);
        CHECKS.due("forget() again", x.forget(), 0);
        CHECKS.due("see(10, 0)", x.see(10, 0), 1);
        CHECKS.due("which()", x.which(), 1);
        for (int i = 2; i <= 6; i++) {
            x.see(10, 0);
        }
        CHECKS.due("forget() of six", x.forget(), 6);
        CHECKS.due("see(10, 0)", x.see(10, 0), 1);
    }

    private static void which() {
        CHECKS.promise("24 which");
        ParasolHours x = Checks.laid("q3;u0,10,0;u1,10,0;u2,10,0;u3,10,0;u2,22,0;u3,9,12;p0;");
        CHECKS.due("which() of nothing SEEN", x.which(), 63);
        x.see(10, 0);
        CHECKS.due("which()", x.which(), 15);
        x.see(11, 1);
        CHECKS.due("which()", x.which(), 7);
        x.see(11, 2);
        CHECKS.due("which()", x.which(), 4);
        x.see(1, 30);
        CHECKS.due("which()", x.which(), 4);
        x.see(2, 30);
        CHECKS.due("which() of what can't be", x.which(), 0);
        x.forget();
        x.see(16, 30);
        CHECKS.due("which()", x.which(), 3);
        x.forget();
        x.see(22, 30);
        CHECKS.due("which()", x.which(), 8);
        x.forget();
        x.see(13, 30);
        CHECKS.due("which()", x.which(), 16);
        x.forget();
        x.see(21, 30);
        CHECKS.due("which() of a worn one too", x.which(), 32);
        CHECKS.due("which() of whoever is under it", Checks.laid("u0,1,1;p0;").which(), 1);
    }

    private static void whichAsItStandsNow() {
        CHECKS.promise("24 which: from how it stands when it is asked");
        ParasolHours x = Checks.laid("q3;u0,10,0;u2,10,0;p0;");
        x.see(11, 1);
        CHECKS.due("which()", x.which(), 3);
        x.pass(1);
        // In HOUR 1 a LACE one does not go on; both are still in the stand.
        CHECKS.due("which()", x.which(), 1);
        CHECKS.due("set(1)", x.set(1), 1 << 11);
        x.take(0, 0);
        x.pass(1);
        CHECKS.due("which()", x.which(), 2);
        CHECKS.due("set(0)", x.set(0), 1 << 10);
        CHECKS.due("set(1)", x.set(1), 1 << 10);
        x.undo();
        CHECKS.due("which()", x.which(), 1);
    }

    private static void set() {
        CHECKS.promise("25 set");
        ParasolHours x = Checks.laid("q3;u0,10,0;u1,10,0;u2,10,0;u3,10,12;p0;");
        for (int u = 0; u < 4; u++) {
            CHECKS.due("set of nothing SEEN", x.set(u), ALL_HOURS);
        }
        CHECKS.due("set(-1)", x.set(-1), BAD);
        CHECKS.due("set(4)", x.set(4), BAD);
        x.see(2, 5);
        CHECKS.due("set(0)", x.set(0), 1 << 21);
        CHECKS.due("set(1)", x.set(1), 1 << 21);
        CHECKS.due("set(2)", x.set(2), 1 << 23);
        CHECKS.due("set(3)", x.set(3), 1 << 16);
        x.see(2, 6);
        CHECKS.due("set(0)", x.set(0), 0);
        CHECKS.due("set(2)", x.set(2), 1 << 23);
        CHECKS.due("set(3)", x.set(3), 0);
        CHECKS.due("which()", x.which(), 0);
        CHECKS.due("set(4) with some SEEN", x.set(4), BAD);
    }

    private static void setOfAll() {
        CHECKS.promise("25 set: each HOUR, 0 to 30");
        int[] firstKinds = {0, 1, 2, 3};
        for (int gone = 0; gone < 2; gone++) {
            ParasolHours x = Checks.laid("q3;u0,10,0;u1,10,0;u2,10,0;u3,10,12;p0;");
            if (gone > 0) {
                x.pass(gone);
            }
            for (int n = 0; n <= 30; n += 5) {
                x.see(7, n);
                for (int kind : firstKinds) {
                    int hour = 7;
                    for (int i = gone; i < gone + n; i++) {
                        hour -= kind == 3 ? 2 : kind == 2 && i % 2 == 1 ? 0 : 1;
                    }
                    CHECKS.due("set(" + kind + ") behind " + n, x.set(kind), 1 << (hour + 72) % 24);
                }
                x.forget();
            }
        }
    }

    private static void seenStays() {
        CHECKS.promise("22 see: stays");
        ParasolHours x = Checks.laid("q3;u0,10,0;u2,10,0;p0;");
        x.keep();
        x.see(11, 1);
        x.take(0, 0);
        x.undo();
        CHECKS.due("count(9) behind undo()", x.count(9), 1);
        x.back();
        CHECKS.due("count(9) behind back()", x.count(9), 1);
        CHECKS.due("which()", x.which(), 3);
        Checks.write(x, "u0,1,1;");
        x.lay();
        CHECKS.due("count(9) behind lay() that is refused", x.count(9), 1);
    }
}
