import java.util.ArrayList;
import java.util.List;

/**
 * What is BAD, at each number of each call: one less and one more than what is told, and numbers far away;
 * and that BAD comes ahead of NO, NO ahead of NONE, FULL last, and that nothing changes by any of them.
 */
public final class BadTest {
    private static final int BAD = ParasolHours.BAD, NO = ParasolHours.NO;
    private static final int FULL = ParasolHours.FULL, NONE = ParasolHours.NONE;
    private static final Checks CHECKS = new Checks("BadTest");

    private static final String SMALLEST = "q1;u0,0,0;p0;";
    private static final String LARGEST = "q9;u0,23,12;u1,0,0;u2,12,12;u3,23,3;u3,0,12;u2,5,5;"
        + "p0;p0;p8;p0;p3;w8,12;w0,23;w3,12;w8,0;w1,1;w0,0;";
    private static final String WORKLESS = "q2;u0,23,12;u2,1,11;p0;p0;p1;";

    private interface Call {
        int of(ParasolHours x, int[] a);
    }

    /** A call, and of each of its numbers the least and the greatest that is told. */
    private record Told(String name, Call call, int[] least, int[] greatest, boolean alike) {
    }

    public static void main(String[] args) {
        for (String text : new String[] {Checks.FIRST, SMALLEST, LARGEST, WORKLESS}) {
            for (int state = 0; state < 3; state++) {
                for (Told told : calls(stand(text, state))) {
                    CHECKS.promise(told.name + " in " + text + " state " + state);
                    eachNumber(told, text, state);
                }
            }
        }
        badAheadOfNo();
        badAheadOfFull();
        noAheadOfNone();
        refusedLeavesWhatCanBeUndone();
        CHECKS.end();
    }

    /** How it stands at first, when much has been done, and when HOURS went by with nobody under any. */
    private static ParasolHours stand(String text, int state) {
        ParasolHours x = Checks.laid(text);
        if (state == 1) {
            for (int p = 0; p < x.count(2); p++) {
                x.take(p, p);
            }
            x.walk(0, 0);
            x.pass(24);
            x.walk(1, 0);
            x.keep();
            x.see(3, 30);
            x.pass(3);
        } else if (state == 2) {
            x.pass(1);
        }
        return x;
    }

    private static int[] row(int... numbers) {
        return numbers;
    }

    private static List<Told> calls(ParasolHours x) {
        int u = x.count(1) - 1;
        int p = x.count(2) - 1;
        int w = x.count(3) - 1;
        List<Told> all = new ArrayList<>();
        all.add(new Told("write", (y, a) -> y.write(a[0]), row(32), row(126), true));
        all.add(new Told("parasol", (y, a) -> y.parasol(a[0], a[1]), row(0, 0), row(u, 4), true));
        all.add(new Told("person", (y, a) -> y.person(a[0], a[1]), row(0, 0), row(p, 4), true));
        all.add(new Told("work", (y, a) -> y.work(a[0], a[1]), row(0, 0), row(w, 2), true));
        all.add(new Told("take", (y, a) -> y.take(a[0], a[1]), row(0, 0), row(p, u), true));
        all.add(new Told("share", (y, a) -> y.share(a[0], a[1]), row(0, 0), row(p, p), false));
        all.add(new Told("give", (y, a) -> y.give(a[0]), row(0), row(p), true));
        all.add(new Told("walk", (y, a) -> y.walk(a[0], a[1]), row(0, 0), row(p, 1), true));
        all.add(new Told("mend", (y, a) -> y.mend(a[0]), row(0), row(u), true));
        all.add(new Told("pass", (y, a) -> y.pass(a[0]), row(1), row(24), true));
        all.add(new Told("until", (y, a) -> y.until(a[0], a[1]), row(0, 0), row(u, 23), true));
        all.add(new Told("agree", (y, a) -> y.agree(a[0], a[1]), row(0, 0), row(u, u), false));
        all.add(new Told("deal", (y, a) -> y.deal(a[0]), row(-1), row(p), true));
        all.add(new Told("make", (y, a) -> y.make(a[0]), row(0), row(23), true));
        all.add(new Told("still", (y, a) -> y.still(a[0]), row(0), row(48), true));
        all.add(new Told("soonest", (y, a) -> y.soonest(a[0], a[1]), row(0, 0), row(w, 1), true));
        all.add(new Told("see", (y, a) -> y.see(a[0], a[1]), row(0, 0), row(23, 30), true));
        all.add(new Told("set", (y, a) -> y.set(a[0]), row(0), row(u), true));
        all.add(new Told("flecks", (y, a) -> y.flecks(a[0], a[1], a[2], a[3], a[4]),
            row(0, 0, 0, 0, 0), row(u, 23, 8, 10, 1), true));
        all.add(new Told("day", (y, a) -> y.day(a[0], a[1], a[2]), row(0, 1, 0), row(9999, 60, 1), true));
        all.add(new Told("count", (y, a) -> y.count(a[0]), row(0), row(12), true));
        return all;
    }

    private static void eachNumber(Told told, String text, int state) {
        for (int[] others : new int[][] {told.least, told.greatest}) {
            for (int i = 0; i < others.length; i++) {
                outside(told, text, state, others, i);
                inside(told, text, state, others, i);
            }
        }
    }

    private static void outside(Told told, String text, int state, int[] others, int i) {
        ParasolHours x = stand(text, state);
        String before = Checks.picture(x);
        int least = told.least[i];
        int greatest = told.greatest[i];
        int[] far = {least - 1, greatest + 1, least - 2, greatest + 2, -100, 10000, least - 256, greatest + 256,
            65536 + least, least - 65536, 1 << 30, Integer.MIN_VALUE, Integer.MIN_VALUE + least, Integer.MAX_VALUE};
        for (int number : far) {
            if (number < least || number > greatest) {
                int[] numbers = others.clone();
                numbers[i] = number;
                CHECKS.due(tell(told, numbers), told.call.of(x, numbers), BAD);
            }
        }
        CHECKS.holds("nothing changes by what is BAD", Checks.picture(x).equals(before));
    }

    private static void inside(Told told, String text, int state, int[] others, int i) {
        if (!isTold(told, others, i)) {
            return;
        }
        for (int number = told.least[i]; number <= told.greatest[i]; number++) {
            int[] numbers = others.clone();
            numbers[i] = number;
            boolean alike = !told.alike && numbers[0] == numbers[1];
            boolean bad = told.call.of(stand(text, state), numbers) == BAD;
            CHECKS.holds(tell(told, numbers) + (alike ? " is BAD" : " is not BAD"), bad == alike);
            if (number == told.least[i] + 60 && number < told.greatest[i] - 60) {
                number = told.greatest[i] - 60;
            }
        }
    }

    /** Whether the numbers but the i-th are such as there are. */
    private static boolean isTold(Told told, int[] numbers, int i) {
        for (int k = 0; k < numbers.length; k++) {
            if (k != i && (numbers[k] < told.least[k] || numbers[k] > told.greatest[k])) {
                return false;
            }
        }
        return true;
    }

    private static String tell(Told told, int[] numbers) {
        return told.name + java.util.Arrays.toString(numbers);
    }

    private static void badAheadOfNo() {
        CHECKS.promise("BAD is ahead of NO");
        ParasolHours x = Checks.laid("q3;u0,5,0;u0,6,0;p0;p1;p1;w1,12;w2,3;");
        x.pass(1);
        // Each of these could not be as things stand either.
        CHECKS.due("take(1, 0)", x.take(1, 0), NO);
        CHECKS.due("take(1, 2)", x.take(1, 2), BAD);
        CHECKS.due("take(1, -1)", x.take(1, -1), BAD);
        CHECKS.due("share(1, 2)", x.share(1, 2), NO);
        CHECKS.due("share(1, 1)", x.share(1, 1), BAD);
        CHECKS.due("share(1, 3)", x.share(1, 3), BAD);
        CHECKS.due("share(3, 3)", x.share(3, 3), BAD);
        CHECKS.due("walk(1, 0)", x.walk(1, 0), NO);
        CHECKS.due("walk(1, 2)", x.walk(1, 2), BAD);
        CHECKS.due("walk(1, -1)", x.walk(1, -1), BAD);
        CHECKS.due("walk(0, 1)", x.walk(0, 1), NO);
        CHECKS.due("walk(0, 3)", x.walk(0, 3), BAD);
        CHECKS.due("soonest(0, 0)", x.soonest(0, 0), NO);
        CHECKS.due("soonest(0, 1)", x.soonest(0, 1), NO);
        CHECKS.due("soonest(0, 2)", x.soonest(0, 2), BAD);
        CHECKS.due("soonest(0, -1)", x.soonest(0, -1), BAD);
    }

    private static void badAheadOfFull() {
        CHECKS.promise("BAD is ahead of FULL");
        ParasolHours x = new ParasolHours();
        Checks.write(x, "p".repeat(200));
        int[] letters = {31, 127, 0, -1, 256 + 'p', Integer.MAX_VALUE, Integer.MIN_VALUE};
        for (int letter : letters) {
            CHECKS.due("write(" + letter + ")", x.write(letter), BAD);
        }
        CHECKS.due("write(32)", x.write(32), FULL);
        CHECKS.due("write(126)", x.write(126), FULL);
        for (int i = 0; i < 6; i++) {
            x.see(i, i);
        }
        CHECKS.due("see(24, 0)", x.see(24, 0), BAD);
        CHECKS.due("see(-1, 0)", x.see(-1, 0), BAD);
        CHECKS.due("see(0, 31)", x.see(0, 31), BAD);
        CHECKS.due("see(0, -1)", x.see(0, -1), BAD);
        CHECKS.due("see(23, 30)", x.see(23, 30), FULL);
        CHECKS.due("see(0, 0)", x.see(0, 0), FULL);
    }

    private static void noAheadOfNone() {
        CHECKS.promise("NO is ahead of NONE, BAD ahead of both");
        ParasolHours x = Checks.laid("q3;u3,5,0;u3,6,0;p1;w1,12;w2,3;");
        CHECKS.due("soonest(0, 0): nobody under one", x.soonest(0, 0), NONE);
        x.pass(1);
        CHECKS.due("soonest(0, 0): done, and nobody could", x.soonest(0, 0), NO);
        CHECKS.due("soonest(1, 0)", x.soonest(1, 0), NONE);
        CHECKS.due("soonest(1, 2)", x.soonest(1, 2), BAD);
        CHECKS.due("until(0, 6)", x.until(0, 6), NONE);
        CHECKS.due("until(0, 24)", x.until(0, 24), BAD);
        CHECKS.due("until(2, 6)", x.until(2, 6), BAD);
        CHECKS.due("agree(0, 1)", x.agree(0, 1), NONE);
        CHECKS.due("agree(0, 0)", x.agree(0, 0), BAD);
        CHECKS.due("make(7)", x.make(7), NONE);
        CHECKS.due("make(31)", x.make(31), BAD);
        CHECKS.due("deal(0), STILL", x.deal(0), NONE);
        CHECKS.due("deal(1)", x.deal(1), BAD);
        CHECKS.due("person(0, 1)", x.person(0, 1), NONE);
        CHECKS.due("person(0, 5)", x.person(0, 5), BAD);
    }

    /** What is refused is no act: undone is then the act ahead of it. */
    private static void refusedLeavesWhatCanBeUndone() {
        CHECKS.promise("nothing changes then");
        ParasolHours x = Checks.laid("q3;u0,5,0;u0,6,12;p0;p0;p1;");
        String[] scenes = new String[4];
        scenes[0] = Checks.scene(x);
        x.take(0, 0);
        scenes[1] = Checks.scene(x);
        x.walk(0, 0);
        scenes[2] = Checks.scene(x);
        x.share(2, 0);
        scenes[3] = Checks.scene(x);
        for (int i = 3; i >= 0; i--) {
            String before = Checks.picture(x);
            refuse(x, i == 3);
            CHECKS.holds("nothing changes", Checks.picture(x).equals(before));
            CHECKS.holds("as it was behind act " + i, Checks.scene(x).equals(scenes[i]));
            CHECKS.due("undo()", x.undo(), i == 0 ? NO : i - 1);
        }
    }

    private static void refuse(ParasolHours x, boolean two) {
        CHECKS.holds("take(2, 1)", x.take(2, 1) == NO);
        CHECKS.holds("take(3, 1)", x.take(3, 1) == BAD);
        CHECKS.holds("share(0, 1)", x.share(0, 1) == NO);
        CHECKS.holds("share(1, 2)", x.share(1, 2) == NO);
        CHECKS.holds("share(2, 2)", x.share(2, 2) == BAD);
        CHECKS.holds("give(1)", x.give(1) == NO);
        CHECKS.holds("give(2)", two || x.give(2) == NO);
        CHECKS.holds("give(-1)", x.give(-1) == BAD);
        CHECKS.holds("walk(1, 1)", x.walk(1, 1) == NO);
        CHECKS.holds("walk(1, 2)", x.walk(1, 2) == BAD);
        CHECKS.holds("mend(2)", x.mend(2) == BAD);
        CHECKS.holds("pass(0)", x.pass(0) == BAD);
        CHECKS.holds("pass(25)", x.pass(25) == BAD);
        CHECKS.holds("back()", x.back() == NO);
    }
}
