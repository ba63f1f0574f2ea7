/** How the class is used: README.md shows this file and what it prints. */
public final class Example {
    public static void main(String[] args) {
        ParasolHours x = new ParasolHours();
        for (char letter : "q4;u0,11,12;u2,9,0;p0;p0;p2;w2,12;w1,11;".toCharArray()) {
            x.write(letter);
        }
        say("no fault", x.fault());
        say("how many persons are laid", x.lay());
        say("person 0 takes parasol 0: its hour", x.take(0, 0));
        say("person 1 comes under it, too", x.share(1, 0));
        say("both walk right: to square", x.walk(0, 0));
        say("until it is 12 under parasol 0", x.until(0, 12));
        say("hours gone by", x.pass(1));
        say("what o'clock it is for person 1", x.person(1, 2));
        say("worn by more than 12: shade", x.person(1, 4));
        say("work 1 is done", x.work(1, 2));
        say("who stands still in an hour, as bits", x.still(1));
        say("person 2 can't walk: it is still", x.walk(2, 1));
        say("there is no parasol 7", x.mend(7));
        say("the hour is undone: as many more can be", x.undo());
    }

    private static void say(String what, int answer) {
        System.out.println(what + ": " + answer);
    }
}
