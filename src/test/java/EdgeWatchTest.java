import java.util.List;

/** The edges of promises 41 to 49 and of "==== 4": a method for each sentence that names one. */
public final class EdgeWatchTest {
    /** Whoever rings x is a, if the last of loses tells more than 0. */
    private static final String ONE = "person a has 50;bell x hour 7;loses a x 3;weighs 1;";
    private static final String SIX = "person a has 100;person b has 100;person c has 100;person d has 100;"
        + "person e has 100;person f has 100;bell v hour 0;bell w hour 1;bell x hour 2;bell y hour 3;bell z hour 4;";
    private static final int[] FAR = {Integer.MIN_VALUE, -100001, -1, 100001, Integer.MAX_VALUE};

    private EdgeWatchTest() {
    }

    /** By which losses all that is known at k is so: from the first to the last, each of them. */
    private static void known(String what, BellRingers x, int k, int first, int last) {
        Check.same("44 " + what + ": fits(" + k + ")", x.fits(k), last - first + 1);
        Check.same("45 " + what + ": sure(0, " + k + ")", x.sure(0, k), first > last ? -1 : first);
        Check.same("45 " + what + ": sure(1, " + k + ")", x.sure(1, k), first > last ? -1 : last);
    }

    // ---- ==== 4

    /** "SEEN, 30 at most": numbers 0 .. 29, all of them count, UNTOLD ones keep their place. */
    private static void thirtySeen() {
        BellRingers x = Check.of(ONE);
        for (int i = 0; i < 30; i++) {
            Check.same("49 seen", x.about(8), i);
            Check.same("41 seen " + i, x.seen(1, 0, 0, i < 29), i);
        }
        Check.same("49 thirty", x.about(8), 30);
        known("the thirtieth says no", x, 0, 1, 0);
        Check.same("41 a thirty-first", x.seen(1, 0, 0, true), -1);
        Check.same("42 untell(30)", x.untell(30), false);
        Check.same("42 untell(29)", x.untell(29), true);
        known("twenty-nine say yes", x, 0, 1, 20);
        Check.same("49 thirty still", x.about(8), 30);
        Check.same("41 still no place", x.seen(1, 0, 0, true), -1);
        for (int i = 0; i < 29; i++) {
            Check.same("42 untell(" + i + ")", x.untell(i), true);
            known("some say yes still", x, 0, i < 28 ? 1 : 0, 20);
        }
        Check.same("41 still no place, all untold", x.seen(1, 0, 0, true), -1);
        Check.tell(x, ONE);
        Check.same("41 another village: the first again", x.seen(1, 0, 0, true), 0);
    }

    /** "is TOLD at a TIME, UNTOLD at a later one or the same"; "TOLD at k or before, not UNTOLD at k or before" */
    private static void twoTimes() {
        for (int told : new int[] {0, 1, 7, 1000}) {
            for (int lasts : new int[] {0, 1, 2, 1000}) {
                BellRingers x = Check.of(ONE);
                x.later(told);
                x.seen(1, 0, 0, true);
                x.later(lasts);
                known("told, not untold, long after", x, Integer.MAX_VALUE, 1, 20);
                x.untell(0);
                x.later(5);
                for (int k = told - 2; k <= told + lasts + 2; k += lasts < 9 ? 1 : 499) {
                    known("told at " + told + " for " + lasts, x, k, k >= told && k < told + lasts ? 1 : 0, 20);
                }
                for (int k : new int[] {told - 1, told, told + lasts - 1, told + lasts}) {
                    known("told at " + told + " for " + lasts, x, k, k >= told && k < told + lasts ? 1 : 0, 20);
                }
                for (int k : FAR) {
                    known("far from " + told, x, k, 0, 20);
                }
            }
        }
    }

    /** At the last TIME, too, what is told counts, and what is untold does not. */
    private static void lastTime() {
        BellRingers x = Check.of(ONE);
        for (int i = 0; i < 100; i++) {
            Check.same("43 later(1000)", x.later(1000), 1000 * (i + 1));
        }
        Check.same("41 seen at 100,000", x.seen(1, 0, 0, true), 0);
        known("ahead of it", x, 99999, 0, 20);
        known("at it", x, 100000, 1, 20);
        known("behind it", x, 100001, 1, 20);
        known("far behind it", x, Integer.MAX_VALUE, 1, 20);
        Check.same("42 untold at 100,000", x.untell(0), true);
        known("told and untold at one time", x, 99999, 0, 20);
        known("told and untold at one time", x, 100000, 0, 20);
        known("told and untold at one time", x, Integer.MAX_VALUE, 0, 20);
    }

    /** "of the village as it was told (nothing done, nobody FOUND OUT)" */
    private static void asItWasTold() {
        BellRingers x = Check.of(ONE + "faces 100;");
        x.day();
        x.day();
        x.gift(0, 9);
        x.leave(0);
        x.want(0, 0, 17);
        x.image(0);
        for (int day = 1; day <= 12; day++) {
            Check.same("41 seen on day " + day, x.seen(day, 0, 0, true), day - 1);
        }
        known("rung on all twelve, not found out", x, 0, 1, 20);
        x.undo();
        x.redo();
        x.back(0);
        known("nothing done or undone matters", x, 0, 1, 20);
        Check.same("49 twelve seen", x.about(8), 12);
    }

    /** "but for what the last of loses tells": the last line told, whoever and whichever bell it is of. */
    private static void lastOfLoses() {
        String[] lines = {"loses a x 9;", "loses b x 6;", "loses c x 3;"};
        String head = "person a has 50;person b has 50;person c has 50;bell x hour 7;";
        int[][] from = {{6, 0}, {10, 1}, {10, 2}};
        for (int last = 0; last < 3; last++) {
            BellRingers x = Check.of(head + lines[(last + 1) % 3] + lines[(last + 2) % 3] + lines[last] + "weighs loss;");
            x.seen(1, 0, last, true);
            known("the last told is " + last, x, 0, from[last][0], 20);
            Check.same("7 the losses stay", x.loss(last, 0), 9 - 3 * last);
        }
        // lines of another sort may come behind it
        BellRingers y = Check.of("person a has 5;bell x hour 1;loses a x 5;bell y hour 1;person b has 5;weighs loss>7;draw 1;");
        y.seen(1, 0, 0, true);
        known("others behind it", y, 0, 8, 20);
        // twenty of them
        StringBuilder text = new StringBuilder(SIX);
        for (int i = 0; i < 20; i++) {
            text.append("loses ").append((char) ('a' + i / 5)).append(' ').append((char) ('v' + i % 5)).append(" 10;");
        }
        BellRingers z = Check.of(text + "weighs loss;");
        z.seen(1, 4, 3, true);
        known("the twentieth", z, 0, 11, 20);
        z.seen(1, 3, 3, true);
        known("the nineteenth is known", z, 0, 1, 0);
    }

    /** "FITS: what it may tell (0 .. 20)": each of the twenty-one alone, and the ends of each stretch. */
    private static void everyLoss() {
        for (int loss = 0; loss <= 21; loss++) {
            BellRingers low = Check.of("person a has 50;bell x hour 7;loses a x 3;weighs loss<" + loss + ";");
            low.seen(1, 0, 0, true);
            known("below " + loss, low, 0, 1, Math.max(0, loss - 1));
            BellRingers high = Check.of("person a has 50;bell x hour 7;loses a x 3;weighs loss>" + loss + ";");
            high.seen(1, 0, 0, true);
            known("above " + loss, high, 0, loss < 20 ? loss + 1 : 1, loss < 20 ? 20 : 0);
            high.untell(0);
            high.seen(1, 0, 0, false);
            known("not above " + loss, high, 0, 0, Math.min(20, loss));
            BellRingers alone = Check.of("person a has 50;bell x hour 7;loses a x 3;weighs loss=" + loss + ";");
            alone.seen(1, 0, 0, true);
            boolean can = loss >= 1 && loss <= 20;
            known(loss + " alone", alone, 0, can ? loss : 1, can ? loss : 0);
            alone.untell(0);
            alone.seen(1, 0, 0, false);
            Check.same("44 any but " + loss, alone.fits(0), can ? 20 : 21);
        }
    }

    // ---- promises 41 to 46

    /** "(a DAY 1 .. 12)": on each of them; "NONE, doing nothing, if one can't be, or no loses" */
    private static void seenDays() {
        for (int day = 0; day <= 13; day++) {
            BellRingers x = Check.of("person a has 50;bell x hour 7;loses a x 3;weighs loss>5 and day+1=" + day + ";");
            boolean can = day >= 1 && day <= 12;
            Check.same("41 seen on day " + day, x.seen(day, 0, 0, true), can ? 0 : -1);
            known("rung on day " + day + " alone", x, 0, can ? 6 : 0, 20);
            if (day > 1 && can) {
                x.seen(day - 1, 0, 0, true);
                known("not on the day before", x, 0, 1, 0);
            }
        }
        BellRingers six = Check.of(SIX + "loses f z 1;");
        Check.same("41 the last of the last", six.seen(12, 4, 5, true), 0);
        int[][] wrong = {{12, 5, 5}, {12, 4, 6}, {13, 4, 5}, {0, 4, 5}, {12, -1, 5}, {12, 4, -1}, {-1, -1, -1}};
        for (int[] three : wrong) {
            Check.same("41 can't be", six.seen(three[0], three[1], three[2], true), -1);
            Check.same("41 can't be", six.seen(three[0], three[1], three[2], false), -1);
        }
        Check.same("49 one is seen", six.about(8), 1);
        BellRingers none = Check.of(SIX);
        none.want(0, 0, 5);
        Check.same("41 no loses, though one has a loss", none.seen(1, 0, 0, true), -1);
        Check.same("44 no loses", none.fits(0), 0);
        Check.same("45 no loses", none.sure(0, 0), -1);
        Check.same("45 no loses", none.sure(1, 0), -1);
        Check.same("46 no loses", none.ask(1, 0, 0), -1);
        Check.same("46 no loses", none.ask(1, 1, 0), -1);
        Check.same("49 nothing is seen", none.about(8), 0);
    }

    /** "that a BELL was rung by one of the PEOPLE, or was not by him": of one of several, of a silent bell. */
    private static void rungOrNot() {
        String text = "person a has 50;person b has 50;bell x hour 7;bell y hour 8;loses a x 5;loses b x 9;weighs loss;";
        BellRingers x = Check.of(text);
        x.seen(1, 0, 0, true);
        known("rung by a", x, 0, 0, 5);
        x.untell(0);
        x.seen(1, 0, 0, false);
        known("not by a", x, 0, 6, 20);
        x.seen(1, 0, 1, false);
        known("not by b either", x, 0, 1, 0);
        x.untell(1);
        known("not by b", x, 0, 0, 5);
        x.seen(1, 1, 0, false);
        x.seen(1, 1, 1, false);
        known("nobody rings y", x, 0, 0, 5);
        x.seen(12, 1, 1, true);
        known("b can't", x, 0, 1, 0);
    }

    /** "It is UNTOLD: true; false if it is so already, or there is none such." */
    private static void untold() {
        BellRingers x = Check.of(ONE);
        Check.same("42 untell(0) of none", x.untell(0), false);
        Check.same("42 untell(-1) of none", x.untell(-1), false);
        x.seen(1, 0, 0, true);
        Check.same("42 untell(1) of one", x.untell(1), false);
        Check.same("42 untell(-1) of one", x.untell(-1), false);
        x.later(4);
        Check.same("42 untell(0)", x.untell(0), true);
        x.later(4);
        Check.same("42 untell(0) again", x.untell(0), false);
        known("untold at 4, not at 8", x, 3, 1, 20);
        known("untold at 4, not at 8", x, 4, 0, 20);
        known("untold at 4, not at 8", x, 7, 0, 20);
        Check.tell(x, ONE);
        Check.same("42 nothing is seen of another village", x.untell(0), false);
    }

    /** "So much later (0 .. 1000): the TIME; NONE, doing nothing, for another number, or if it would be above 100,000." */
    private static void laters() {
        BellRingers x = new BellRingers();
        Check.same("43 later(0)", x.later(0), 0);
        Check.same("43 later(1)", x.later(1), 1);
        Check.same("43 later(1000)", x.later(1000), 1001);
        for (int by : new int[] {-1, 1001, -1000, Integer.MIN_VALUE, Integer.MAX_VALUE}) {
            Check.same("43 later(" + by + ")", x.later(by), -1);
            Check.same("49 the time stays", x.about(9), 1001);
        }
        for (int i = 2; i <= 99; i++) {
            x.later(1000);
        }
        Check.same("49 99,001", x.about(9), 99001);
        Check.same("43 to 100,001", x.later(1000), -1);
        Check.same("43 to 100,000", x.later(999), 100000);
        Check.same("43 no more", x.later(1), -1);
        Check.same("43 but 0", x.later(0), 100000);
        for (int by : new int[] {1000, 1001, -1, Integer.MAX_VALUE, Integer.MIN_VALUE}) {
            Check.same("43 later(" + by + ") at 100,000", x.later(by), -1);
        }
        x.village();
        Check.same("49 the time stays with another village", x.about(9), 100000);
        Check.tell(x, "$");
        Check.same("49 and with a fault", x.about(9), 100000);
    }

    /** "ASK (a DAY 1 .. 12)": the bell that leaves the fewest at the most; "of like ones the first" */
    private static void asks() {
        for (int day = 0; day <= 13; day++) {
            BellRingers x = Check.of("person a has 50;bell w hour 1;bell x hour 7;loses a x 3;"
                + "weighs loss>8 and day+1=" + day + ";");
            boolean can = day >= 1 && day <= 12;
            Check.same("46 the bell of day " + day, x.ask(day, 0, 0), can ? 1 : -1);
            Check.same("46 left of day " + day, x.ask(day, 1, 0), can ? 12 : -1);
            for (int other = 1; other <= 12; other++) {
                if (other != day) {
                    Check.same("46 nothing rings then: the first", x.ask(other, 0, 0), 0);
                    Check.same("46 nothing rings then: all are left", x.ask(other, 1, 0), 21);
                }
            }
            Check.same("46 what -1", x.ask(1, -1, 0), -1);
            Check.same("46 what 2", x.ask(1, 2, 0), -1);
        }
        // the twenty-one are parted at 4, 11 and 10; the larger part may be left
        BellRingers few = Check.of("person a has 99;bell v hour 1;bell w hour 2;loses a v 5;weighs loss>3;");
        Check.same("46 the only one that tells", few.ask(1, 0, 0), 0);
        Check.same("46 4 and 17", few.ask(1, 1, 0), 17);
        BellRingers even = Check.of("person a has 99;bell v hour 1;loses a v 5;weighs loss>10;");
        Check.same("46 10 and 11", even.ask(1, 1, 0), 11);
        BellRingers odd = Check.of("person a has 99;bell v hour 1;loses a v 5;weighs loss>9;");
        Check.same("46 11 and 10", odd.ask(1, 1, 0), 11);
    }

    /** A later bell may tell as much: of like ones the first; by what is known at k alone. */
    private static void asksLike() {
        // a rings v, or not, by the unknown loss; if he did, b rings w and a rings x, else the other way
        String text = "person a has 99;person b has 99;bell v hour 1;bell w hour 2;bell x hour 3;"
            + "loses a w 10;loses b w 10;loses a x 10;loses b x 10;loses a v 5;weighs (loss>9)*(2-rung);";
        BellRingers x = Check.of(text);
        Check.same("46 all three tell as much: the first", x.ask(1, 0, 0), 0);
        Check.same("46 eleven are left", x.ask(1, 1, 0), 11);
        x.later(3);
        x.seen(1, 0, 0, true);
        Check.same("46 as known ahead of it", x.ask(1, 1, 2), 11);
        Check.same("46 as known at it", x.ask(1, 1, 3), 11);
        Check.same("44 eleven", x.fits(3), 11);
        x.seen(1, 0, 0, false);
        Check.same("46 none fits", x.ask(1, 0, 3), -1);
        Check.same("46 none fits", x.ask(1, 1, 3), -1);
        Check.same("46 ahead of it all fit", x.ask(1, 0, 2), 0);
        for (int k : FAR) {
            Check.same("46 k " + k, x.ask(1, 0, k), k > 0 ? -1 : 0);
        }
        // one is left: whichever bell
        BellRingers one = Check.of("person a has 9;bell v hour 1;bell w hour 1;loses a w 5;weighs 1;");
        one.seen(1, 1, 0, false);
        Check.same("44 one fits", one.fits(0), 1);
        Check.same("46 the first bell", one.ask(12, 0, 0), 0);
        Check.same("46 one is left", one.ask(12, 1, 0), 1);
    }

    /** Of each of the PEOPLE, by each BELL: the others are silent, and nobody is an answer beside the last one. */
    private static void asksOfEach() {
        for (int person = 0; person < 6; person++) {
            for (int bell = 0; bell < 5; bell++) {
                String two = (char) ('a' + person) + " " + (char) ('v' + bell);
                BellRingers x = Check.of(SIX + "loses " + two + " 3;weighs loss>12;");
                Check.same("46 the bell of " + two, x.ask(12, 0, 0), bell);
                Check.same("46 13 and 8 of " + two, x.ask(12, 1, 0), 13);
                x.seen(1, bell, person, true);
                Check.same("46 nothing more to know of " + two, x.ask(12, 0, 0), 0);
                Check.same("46 eight of " + two, x.ask(12, 1, 0), 8);
            }
        }
    }

    // ---- promises 47 to 49

    /** "are kept in a BOX 0 .. 2: the day"; "All is as it was kept (no ACTS are kept then): the day" */
    private static void images() {
        BellRingers x = Check.of(ONE + "faces 30;draw 7;");
        for (int box = 0; box < 3; box++) {
            Check.same("48 back(" + box + "), empty", x.back(box), -1);
            Check.same("47 image(" + box + ")", x.image(box), box);
            x.day();
        }
        for (int box : new int[] {-1, 3, 32, -32, Integer.MIN_VALUE, Integer.MAX_VALUE}) {
            Check.same("47 image(" + box + ")", x.image(box), -1);
            Check.same("48 back(" + box + ")", x.back(box), -1);
        }
        Check.same("49 three acts", x.about(6), 3);
        int[] has = {50, 47, 44};
        for (int box = 2; box >= 0; box--) {
            x.gift(0, 9);
            x.undo();
            Check.same("49 one to redo", x.about(7), 1);
            Check.same("48 back(" + box + ")", x.back(box), box);
            Check.same("6 has", x.person(0, 0), has[box]);
            Check.same("49 none to undo", x.about(6), 0);
            Check.same("49 none to redo", x.about(7), 0);
            Check.same("16 undo()", x.undo(), false);
            Check.same("17 redo()", x.redo(), false);
        }
        // what is kept anew takes the place of what was
        Check.same("48 back(2)", x.back(2), 2);
        Check.same("47 image(0) anew", x.image(0), 2);
        x.day();
        Check.same("48 back(0) anew", x.back(0), 2);
        Check.same("48 back(1), as before", x.back(1), 1);
    }

    /** "What all HAVE, how often they RANG, who is HERE, LOSSES, the day, the SEED": all of it, and nothing else. */
    private static void allOfAnImage() {
        String text = SIX + "loses a v 3;loses b w 4;loses c x 5;loses d y 6;loses e z 7;loses f z 7;faces 40;draw 9;";
        BellRingers x = Check.of(text);
        x.day();
        x.leave(5);
        x.leave(0);
        x.gift(3, 77);
        x.want(4, 0, 20);
        x.day();
        List<Integer> kept = Whole.state(x);
        x.image(1);
        x.day();
        x.come(0);
        x.come(5);
        x.leave(3);
        x.want(4, 0, 1);
        x.want(0, 0, 0);
        x.gift(5, 1);
        x.list();
        x.later(8);
        x.seen(1, 0, 0, true);
        Check.put(x, "draw 5;");
        Check.same("48 back(1)", x.back(1), 2);
        Check.same("48 all is as it was kept", Whole.state(x).equals(kept), true);
        Check.same("49 what is seen stays", x.about(8), 1);
        Check.same("49 the time stays", x.about(9), 8);
        Check.same("49 the tape stays", x.about(10), 7);
        Check.same("49 what lies there stays", x.about(12), 6);
        x.day();
        x.undo();
        Check.same("16 undone to what was kept", Whole.state(x).equals(kept), true);
        Check.same("16 no further", x.undo(), false);
        Check.tell(x, "");
        x.end(0);
        Check.same("4 boxes are empty then", x.back(1), -1);
    }

    /** Each what at its ends: empty, and as full as can be. */
    private static void abouts() {
        BellRingers x = new BellRingers();
        for (int what = 0; what <= 13; what++) {
            Check.same("49 about(" + what + ") of nothing", x.about(what), 0);
        }
        StringBuilder text = new StringBuilder(SIX);
        for (int i = 0; i < 20; i++) {
            text.append("loses ").append((char) ('a' + i / 5)).append(' ').append((char) ('v' + i % 5)).append(" 1;");
        }
        text.append("weighs 1").append("+1".repeat(29)).append(";faces 100;draw 999;");
        Check.tell(x, text.toString());
        Check.same("49 the seed", x.about(5), 999);
        for (int i = 0; i < 60; i++) {
            x.gift(0, 1);
        }
        x.seen(1, 0, 0, true);
        for (int i = 0; i < 40; i++) {
            x.seen(12, 4, 5, false);
        }
        for (int i = 0; i < 100; i++) {
            x.later(1000);
        }
        x.list();
        Check.put(x, " ".repeat(1600));
        int[] full = {6, 5, 20, 63, 0, 999, 40, 0, 30, 100000, 1600, 30, 6, 100};
        for (int what = 0; what < full.length; what++) {
            Check.same("49 about(" + what + "), full", x.about(what), full[what]);
        }
        for (int i = 0; i < 40; i++) {
            x.undo();
        }
        Check.same("49 none to undo", x.about(6), 0);
        Check.same("49 forty to redo", x.about(7), 40);
        for (int what : new int[] {-1, 14, 32, Integer.MIN_VALUE, Integer.MAX_VALUE}) {
            Check.same("49 about(" + what + ")", x.about(what), -1);
        }
        for (int person = 0; person < 6; person++) {
            x.leave(person);
        }
        Check.same("49 nobody is here", x.about(3), 0);
        Check.same("49 six people still", x.about(0), 6);
    }

    public static void main(String[] args) {
        thirtySeen();
        twoTimes();
        lastTime();
        asItWasTold();
        lastOfLoses();
        everyLoss();
        seenDays();
        rungOrNot();
        untold();
        laters();
        asks();
        asksLike();
        asksOfEach();
        images();
        allOfAnImage();
        abouts();
        Check.finish();
    }
}
