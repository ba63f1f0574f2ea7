/** Counts the answers of a test, and prints those that are not due. */
final class Checks {
    /** The TEXT that the document gives a new object's dominion by. */
    static final String FIRST =
        "q6;u0,10,2;u1,18,0;u2,7,4;u3,14,1;u0,11,8;p0;p0;p2;p0;w1,13;w2,19;w3,10;w5,15;w0,12;";

    private final String test;
    private String promise = "";
    private int right;
    private int wrong;

    Checks(String test) {
        this.test = test;
    }

    void promise(String name) {
        promise = name;
    }

    void due(String call, long got, long want) {
        if (got == want) {
            right++;
        } else {
            wrong++;
            System.out.println(promise + ": " + call + " answered " + got + ", due is " + want);
        }
    }

    void holds(String what, boolean so) {
        due(what, so ? 1 : 0, 1);
    }

    /** What DEAL answers: how many, each PERSON's, and BAD on either side. */
    void dealt(ParasolHours x, int most, int... wants) {
        String before = picture(x);
        due("deal(-2)", x.deal(-2), ParasolHours.BAD);
        due("deal(-1)", x.deal(-1), most);
        for (int k = 0; k < wants.length; k++) {
            due("deal(" + k + ")", x.deal(k), wants[k]);
        }
        due("deal(" + wants.length + ")", x.deal(wants.length), ParasolHours.BAD);
        holds("nothing changes by deal", picture(x).equals(before));
    }

    /** What SOONEST answers: who, and behind how many HOURS. */
    void soonest(ParasolHours x, int w, int who, int hours) {
        due("soonest(" + w + ", 0)", x.soonest(w, 0), who);
        due("soonest(" + w + ", 1)", x.soonest(w, 1), hours);
    }

    /** What FLECKS answers: the chance, above and below. */
    void chance(ParasolHours x, int u, int h, int n, int tenths, int above, int below) {
        String call = "flecks(" + u + ", " + h + ", " + n + ", " + tenths + ", ";
        due(call + "0)", x.flecks(u, h, n, tenths, 0), above);
        due(call + "1)", x.flecks(u, h, n, tenths, 1), below);
    }

    void end() {
        System.out.println(test + ": " + right + " answers right, " + wrong + " wrong");
        if (wrong != 0) {
            System.exit(1);
        }
    }

    /** Puts a text in place of what was written before. */
    static void write(ParasolHours x, String text) {
        x.wipe();
        for (char letter : text.toCharArray()) {
            x.write(letter);
        }
    }

    /** A new object with this dominion, its first HOUR not yet gone. */
    static ParasolHours laid(String text) {
        ParasolHours x = new ParasolHours();
        write(x, text);
        if (x.lay() < 1) {
            throw new IllegalArgumentException("not to be laid: " + text);
        }
        return x;
    }

    /** All that the questions without a choice tell of how it stands, in one line. */
    static String picture(ParasolHours x) {
        StringBuilder all = new StringBuilder();
        for (int what = 0; what <= 12; what++) {
            all.append(x.count(what)).append(' ');
        }
        for (int what = 0; what <= 4; what++) {
            for (int i = 0; i < 6; i++) {
                all.append(x.parasol(i, what)).append(' ').append(x.person(i, what)).append(' ');
                all.append(x.work(i, what)).append(' ');
            }
        }
        return all.toString();
    }

    /** The same but for what stays whatever is undone or brought back: 9 SEEN to 12 letters. */
    static String scene(ParasolHours x) {
        String[] parts = picture(x).split(" ");
        for (int what = 9; what <= 12; what++) {
            parts[what] = "";
        }
        return String.join(" ", parts);
    }
}
