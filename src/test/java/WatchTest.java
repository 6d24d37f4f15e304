/** Promises 41 to 49: what is seen and known by then, images, and about. */
public final class WatchTest {
    /** By the last of loses, b rings x on day 1 from 6 on, on day 2 from 8 on. */
    private static final String TWO = "person a has 9;person b has 9;bell x hour 1;bell y hour 2;"
        + "loses a x 5;loses b y 4;loses b x 7;";

    private WatchTest() {
    }

    private static void seeing() {
        BellRingers x = Check.of(TWO);
        Check.same("fits(0)", x.fits(0), 21);
        Check.same("sure(0, 0)", x.sure(0, 0), 0);
        Check.same("sure(1, 0)", x.sure(1, 0), 20);
        Check.same("seen 0", x.seen(1, 0, 1, true), 0);
        Check.same("fits(0)", x.fits(0), 15);
        Check.same("sure(0, 0)", x.sure(0, 0), 6);
        Check.same("sure(1, 0)", x.sure(1, 0), 20);
        Check.same("seen 1", x.seen(2, 0, 1, false), 1);
        Check.same("fits(0)", x.fits(0), 2);
        Check.same("sure(0, 0)", x.sure(0, 0), 6);
        Check.same("sure(1, 0)", x.sure(1, 0), 7);
        Check.same("sure(2, 0)", x.sure(2, 0), -1);
        Check.same("sure(-1, 0)", x.sure(-1, 0), -1);
        Check.same("seen 2", x.seen(1, 1, 0, true), 2);
        Check.same("fits(0)", x.fits(0), 0);
        Check.same("sure(0, 0)", x.sure(0, 0), -1);
        Check.same("sure(1, 0)", x.sure(1, 0), -1);
        Check.same("ask(1, 0, 0)", x.ask(1, 0, 0), -1);
        Check.same("ask(1, 1, 0)", x.ask(1, 1, 0), -1);
        Check.same("about(8)", x.about(8), 3);
    }

    private static void wrongSights() {
        BellRingers x = Check.of(TWO);
        int[][] wrong = {{0, 0, 0}, {13, 0, 0}, {-1, 0, 0}, {1, 2, 0}, {1, -1, 0}, {1, 0, 2}, {1, 0, -1}};
        for (int[] three : wrong) {
            Check.same("seen of none", x.seen(three[0], three[1], three[2], true), -1);
        }
        Check.same("about(8)", x.about(8), 0);
        for (int i = 0; i < 30; i++) {
            Check.same("seen " + i, x.seen(12, 0, i % 2, false), i);
        }
        Check.same("seen beyond 30", x.seen(1, 0, 0, true), -1);
        Check.same("untell(29)", x.untell(29), true);
        Check.same("untold ones count", x.seen(1, 0, 0, true), -1);
        Check.same("about(8)", x.about(8), 30);
        // on day 12 neither of the two rings x but by some; all 30 are looked at, and no more
        Check.same("fits with 30 seen", x.fits(0), fitsByHand());
        Check.tell(x, TWO);
        Check.same("nothing seen of the village before", x.fits(0), 21);
        x.seen(1, 0, 1, true);
        Check.same("one seen, none of those before", x.fits(0), 15);
        BellRingers y = Check.of("person a has 9;bell x hour 1;");
        Check.same("seen without loses", y.seen(1, 0, 0, true), -1);
        Check.same("fits without loses", y.fits(0), 0);
        Check.same("sure without loses", y.sure(0, 0), -1);
        Check.same("ask without loses", y.ask(1, 0, 0), -1);
    }

    /** For how many of 0 .. 20, told in place of the 7, nobody rings x on day 12. */
    private static int fitsByHand() {
        int many = 0;
        for (int loss = 0; loss <= 20; loss++) {
            BellRingers y = Check.of(TWO);
            if (loss != 7) {
                y.want(1, 0, loss);
            }
            many += y.will(0, 12, 0) == -1 ? 1 : 0;
        }
        return many;
    }

    private static void asking() {
        BellRingers x = Check.of(TWO);
        Check.same("ask(1, 0, 0)", x.ask(1, 0, 0), 0);
        Check.same("ask(1, 1, 0)", x.ask(1, 1, 0), 15);
        Check.same("ask(2, 1, 0)", x.ask(2, 1, 0), 13);
        x.seen(1, 0, 1, true);
        Check.same("known: ask(1, 0, 0), the first of like ones", x.ask(1, 0, 0), 0);
        Check.same("known: ask(1, 1, 0)", x.ask(1, 1, 0), 15);
        Check.same("known: ask(2, 1, 0)", x.ask(2, 1, 0), 13);
        Check.same("ask(0, 0, 0)", x.ask(0, 0, 0), -1);
        Check.same("ask(13, 0, 0)", x.ask(13, 0, 0), -1);
        Check.same("ask(1, 2, 0)", x.ask(1, 2, 0), -1);
        Check.same("ask(1, -1, 0)", x.ask(1, -1, 0), -1);
        // the unknown one is rung second: the first bell tells nothing
        BellRingers y = Check.of("person a has 9;person b has 9;bell y hour 2;bell x hour 1;"
            + "loses a x 5;loses b y 4;loses b x 7;");
        Check.same("the second bell: ask(1, 0, 0)", y.ask(1, 0, 0), 1);
        // nobody is an answer, too: 0 is silent
        BellRingers z = Check.of("person a has 9;bell x hour 1;loses a x 5;");
        Check.same("nobody: ask(1, 1, 0)", z.ask(1, 1, 0), 20);
        Check.same("nobody: ask(11, 1, 0)", z.ask(11, 1, 0), 11);
        z.seen(1, 0, 0, false);
        Check.same("the greatest is 0", z.sure(1, 0), 0);
        Check.same("the least is 0", z.sure(0, 0), 0);
        Check.same("one is left", z.ask(1, 1, 0), 1);
        BellRingers f = Check.of("person a has 9;bell x hour 1;loses a x 5;faces 100;");
        Check.same("nobody is found out: ask(11, 1, 0)", f.ask(11, 1, 0), 11);
    }

    /** Six people, five bells: who rings the last one tells most. */
    private static void askingMany() {
        StringBuilder text = new StringBuilder();
        for (int i = 0; i < 6; i++) {
            text.append("person ").append((char) ('a' + i)).append(" has 9;");
        }
        for (int i = 0; i < 5; i++) {
            text.append("bell ").append((char) ('v' + i)).append(" hour 1;");
        }
        text.append("loses a z 15;loses b z 16;loses c v 1;loses f z 7;weighs loss-rung*2;");
        BellRingers x = Check.of(text.toString());
        Check.same("ask(1, 0, 0)", x.ask(1, 0, 0), 4);
        Check.same("ask(1, 1, 0)", x.ask(1, 1, 0), 17);
        // b rang up to 16: then a, up to 15; from 17 on f rang, and rings again from 19 on
        Check.same("ask(2, 1, 0)", x.ask(2, 1, 0), 16);
        x.seen(1, 4, 5, true);
        Check.same("fits(0)", x.fits(0), 4);
        Check.same("ask(2, 0, 0)", x.ask(2, 0, 0), 4);
        Check.same("ask(2, 1, 0)", x.ask(2, 1, 0), 2);
    }

    private static void asTold() {
        BellRingers x = Check.of(TWO + "faces 100;draw 7;");
        x.day();
        x.want(1, 0, 1);
        x.leave(0);
        x.gift(1, 50);
        x.seen(1, 0, 1, true);
        x.seen(2, 0, 1, false);
        Check.same("fits(0)", x.fits(0), 2);
        Check.same("sure(1, 0)", x.sure(1, 0), 7);
        x.undo();
        Check.same("about(8), nothing undone of it", x.about(8), 2);
        Check.same("about(4)", x.about(4), 1);
        Check.same("loss(1, 0)", x.loss(1, 0), 1);
    }

    private static void times() {
        BellRingers x = Check.of(TWO);
        Check.same("later(0)", x.later(0), 0);
        x.seen(1, 0, 1, true);
        Check.same("later(5)", x.later(5), 5);
        x.seen(2, 0, 1, false);
        Check.same("later(3)", x.later(3), 8);
        Check.same("untell(0)", x.untell(0), true);
        Check.same("untell(0) again", x.untell(0), false);
        Check.same("untell(2)", x.untell(2), false);
        Check.same("untell(-1)", x.untell(-1), false);
        int[] k = {Integer.MIN_VALUE, -1, 0, 4, 5, 7, 8, 9, Integer.MAX_VALUE};
        // without the first, b does not ring x on day 2 up to 7
        int[] due = {21, 21, 15, 15, 2, 2, 8, 8, 8};
        for (int i = 0; i < k.length; i++) {
            Check.same("fits(" + k[i] + ")", x.fits(k[i]), due[i]);
        }
        Check.same("sure(0, 8)", x.sure(0, 8), 0);
        Check.same("sure(1, 8)", x.sure(1, 8), 7);
        Check.same("sure(1, 4)", x.sure(1, 4), 20);
        Check.same("ask(1, 1, -1)", x.ask(1, 1, -1), 15);
        Check.same("ask(1, 1, 8)", x.ask(1, 1, 8), 6);
        // told and untold at one time it never counts
        Check.same("seen 2", x.seen(1, 1, 0, true), 2);
        Check.same("fits(8)", x.fits(8), 0);
        Check.same("untell(2)", x.untell(2), true);
        Check.same("fits(8)", x.fits(8), 8);
        Check.same("later(-1)", x.later(-1), -1);
        Check.same("later(1001)", x.later(1001), -1);
        for (int i = 1; i < 100; i++) {
            x.later(1000);
        }
        Check.same("about(9)", x.about(9), 99008);
        Check.same("later(993)", x.later(993), -1);
        Check.same("later(992)", x.later(992), 100000);
        Check.same("later(1)", x.later(1), -1);
        Check.same("later(0)", x.later(0), 100000);
        Check.tell(x, TWO);
        Check.same("the time stays", x.about(9), 100000);
        Check.same("nothing is seen", x.about(8), 0);
        Check.same("nothing to untell", x.untell(0), false);
    }

    private static void images() {
        BellRingers x = Check.of(ActsTest.THREE + "faces 100;draw 5;");
        Check.same("back(0), nothing kept", x.back(0), -1);
        Check.same("image(-1)", x.image(-1), -1);
        Check.same("image(3)", x.image(3), -1);
        Check.same("image(2)", x.image(2), 0);
        x.day();
        x.leave(1);
        x.want(0, 1, 6);
        Check.same("image(0)", x.image(0), 1);
        x.day();
        Check.same("acts", x.about(6), 4);
        x.undo();
        Check.same("back(2)", x.back(2), 0);
        int[] first = {20, 30, 5};
        for (int person = 0; person < 3; person++) {
            Check.same("has", x.person(person, 0), first[person]);
            Check.same("rang", x.person(person, 1), 0);
        }
        Check.same("here", x.about(3), 7);
        Check.same("seed", x.about(5), 5);
        Check.same("loss(0, 0)", x.loss(0, 0), 4);
        Check.same("loss(0, 1)", x.loss(0, 1), 0);
        Check.same("no acts are kept", x.about(6), 0);
        Check.same("none to redo", x.about(7), 0);
        Check.same("undo()", x.undo(), false);
        Check.same("redo()", x.redo(), false);
        x.day();
        Check.same("back(0)", x.back(0), 1);
        Check.same("here", x.about(3), 5);
        Check.same("seed", x.about(5), 643);
        Check.same("loss(0, 0)", x.loss(0, 0), 0);
        Check.same("loss(0, 1)", x.loss(0, 1), 6);
        Check.same("has", x.person(0, 0), 16);
        Check.same("rang", x.person(0, 1), 1);
        // what is kept stays as it was, however one goes on
        x.day();
        Check.same("back(0) again", x.back(0), 1);
        Check.same("rang", x.person(0, 1), 1);
        x.gift(0, 1);
        Check.same("back(1), nothing kept", x.back(1), -1);
        Check.same("back(3)", x.back(3), -1);
        Check.same("back(-1)", x.back(-1), -1);
        Check.same("acts are kept then", x.about(6), 1);
        Check.same("image(0) anew", x.image(0), 1);
        x.day();
        x.back(0);
        Check.same("has", x.person(0, 0), 17);
    }

    private static void abouts() {
        BellRingers x = Check.of(ActsTest.THREE + "weighs (loss+1)*2;faces 30;draw 5;");
        x.day();
        x.leave(0);
        x.gift(1, 1);
        x.undo();
        x.seen(1, 0, 0, true);
        x.untell(0);
        x.later(4);
        x.list();
        x.feed(0, 0, 0, 0, 0);
        int[] due = {3, 2, 5, 6, 1, 643, 2, 1, 1, 4, 20, 4, 3, 30};
        for (int what = 0; what < due.length; what++) {
            Check.same("about(" + what + ")", x.about(what), due[what]);
        }
        Check.same("about(14)", x.about(14), -1);
        Check.same("about(-1)", x.about(-1), -1);
    }

    public static void main(String[] args) {
        seeing();
        wrongSights();
        asking();
        askingMany();
        asTold();
        times();
        images();
        abouts();
        Check.finish();
    }
}
