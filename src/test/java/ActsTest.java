/** Promises 6 to 17: what is so, the acts, undo and redo. */
public final class ActsTest {
    static final String THREE = "person ann has 20;person bob has 30;person cid has 5;bell dawn hour 6;bell dusk hour 18;"
        + "loses ann dawn 4;loses bob dawn 4;loses cid dawn 2;loses bob dusk 7;loses cid dusk 9;";

    private ActsTest() {
    }

    private static void persons() {
        BellRingers x = Check.of(THREE);
        int[][] due = {{20, 0, 1, 1, 1}, {30, 0, 1, 3, 0}, {5, 0, 1, 3, 2}};
        for (int person = 0; person < 3; person++) {
            for (int what = 0; what < 5; what++) {
                Check.same("person(" + person + ", " + what + ")", x.person(person, what), due[person][what]);
            }
        }
        Check.same("person(3, 0)", x.person(3, 0), -1);
        Check.same("person(-1, 0)", x.person(-1, 0), -1);
        Check.same("person(0, 5)", x.person(0, 5), -1);
        Check.same("person(0, -1)", x.person(0, -1), -1);
        x.day();
        Check.same("person(0, 1) behind a day", x.person(0, 1), 1);
        Check.same("person(1, 4) behind a day", x.person(1, 4), 1);
        x.leave(2);
        Check.same("person(2, 2), away", x.person(2, 2), 0);
        Check.same("person(2, 3), away", x.person(2, 3), 3);
        Check.same("person(2, 4), away", x.person(2, 4), 0);
        // on the next day the first bell goes ahead of the second
        Check.same("person(1, 4)", x.person(1, 4), 3);
    }

    private static void losses() {
        BellRingers x = Check.of(THREE);
        Check.same("loss(0, 0)", x.loss(0, 0), 4);
        Check.same("loss(0, 1)", x.loss(0, 1), 0);
        Check.same("loss(2, 1)", x.loss(2, 1), 9);
        int[][] wrong = {{3, 0}, {-1, 0}, {0, 2}, {0, -1}, {Integer.MAX_VALUE, 0}, {0, Integer.MIN_VALUE}};
        for (int[] two : wrong) {
            Check.same("loss of none", x.loss(two[0], two[1]), -1);
            Check.same("weight of none", x.weight(two[0], two[1]), -1000000000);
        }
        Check.same("weight(2, 1)", x.weight(2, 1), 9);
        Check.same("weight(0, 1)", x.weight(0, 1), 0);
        x.day();
        Check.same("weight(2, 1) behind a day", x.weight(2, 1), 8);
        Check.same("weight(2, 0) behind a day", x.weight(2, 0), 1);
        Check.same("weight(0, 1) behind a day", x.weight(0, 1), -1);
        BellRingers y = Check.of(THREE + "weighs here*100+day*10+hour;");
        Check.same("weight by here and hour", y.weight(0, 1), 318);
        y.day();
        y.leave(1);
        Check.same("weight by here and day", y.weight(1, 0), 216);
    }

    private static void ringers() {
        BellRingers x = Check.of(THREE + "bell noon hour 12;");
        Check.same("ringer(0), the first of like ones", x.ringer(0), 0);
        Check.same("ringer(1)", x.ringer(1), 2);
        Check.same("ringer(2), silent", x.ringer(2), -1);
        Check.same("ringer(3)", x.ringer(3), -2);
        Check.same("ringer(-1)", x.ringer(-1), -2);
        x.leave(0);
        Check.same("ringer(0) without ann", x.ringer(0), 1);
        Check.same("hour(0)", x.hour(0), 6);
        Check.same("hour(1)", x.hour(1), 18);
        Check.same("hour(2)", x.hour(2), 12);
        Check.same("hour(3)", x.hour(3), -1);
        Check.same("hour(-1)", x.hour(-1), -1);
        Check.same("a weight of 0 rings nothing", Check.of(THREE + "weighs 0;").ringer(0), -1);
        Check.same("a weight below 0 rings nothing", Check.of(THREE + "weighs 0-1;").ringer(0), -1);
        Check.same("without a loss nobody rings", Check.of(THREE + "weighs 100-loss;").ringer(1), 1);
        // as things are now: ahead of all others
        BellRingers y = Check.of("person a has 5;bell x hour 1;bell y hour 2;loses a x 1;loses a y 1;");
        Check.same("ringer(1) ahead of the first bell", y.ringer(1), 0);
        Check.same("silent() behind the first bell", y.silent(), 2);
    }

    private static void days() {
        BellRingers x = Check.of(THREE);
        int[] lost = {9, 4, 4, 4, 11};
        for (int i = 0; i < lost.length; i++) {
            Check.same("day " + (i + 1), x.day(), lost[i]);
            Check.same("about(4)", x.about(4), i + 1);
        }
        int[][] due = {{8, 3}, {15, 3}, {0, 4}};
        for (int person = 0; person < 3; person++) {
            Check.same("has behind 5 days", x.person(person, 0), due[person][0]);
            Check.same("rang behind 5 days", x.person(person, 1), due[person][1]);
        }
        BellRingers y = Check.of("person a has 5;bell x hour 1;bell y hour 2;loses a x 1;weighs day;");
        Check.same("silent on day 0", y.day(), 0);
        Check.same("rung on day 1", y.day(), 1);
    }

    private static void foundOut() {
        // 5 becomes 756, then 643
        int[] faces = {0, 43, 44, 56, 57, 100};
        int[] first = {4, 4, 4, 4, 0, 0};
        int[] second = {9, 9, 0, 0, 0, 0};
        for (int i = 0; i < faces.length; i++) {
            BellRingers x = Check.of(THREE + "draw 5;faces " + faces[i] + ";");
            Check.same("lost", x.day(), 9);
            Check.same("the seed", x.about(5), 643);
            Check.same("ann by dawn, faces " + faces[i], x.loss(0, 0), first[i]);
            Check.same("cid by dusk, faces " + faces[i], x.loss(2, 1), second[i]);
            Check.same("cid by dawn, faces " + faces[i], x.loss(2, 0), 2);
        }
        BellRingers y = Check.of("person a has 5;bell x hour 1;bell y hour 2;loses a y 1;draw 5;");
        y.day();
        Check.same("no draw for a silent bell", y.about(5), 756);
    }

    private static void mostRung() {
        BellRingers x = Check.of("person a has 999;bell v hour 1;bell w hour 1;bell x hour 1;bell y hour 1;bell z hour 1;"
            + "loses a v 1;loses a w 1;loses a x 1;loses a y 1;loses a z 1;weighs 1;");
        for (int i = 0; i < 199; i++) {
            x.day();
        }
        Check.same("has behind 199 days", x.person(0, 0), 4);
        Check.same("rang behind 199 days", x.person(0, 1), 995);
        Check.same("purse(0, 1)", x.purse(0, 1), 0);
        Check.same("the 200th day", x.day(), 4);
        Check.same("999 at most", x.person(0, 1), 999);
        Check.same("the 201st day", x.day(), 0);
        Check.same("999 at most still", x.person(0, 1), 999);
    }

    /** Beyond 512 calls: not promised, but the bound of day() can be seen nowhere else. */
    private static void lastDay() {
        BellRingers x = Check.of("person a has 9;bell x hour 1;loses a x 1;weighs day>1000;");
        for (int i = 0; i < 999; i++) {
            x.day();
        }
        Check.same("999 days", x.about(4), 999);
        Check.same("no day behind them", x.day(), -1);
        Check.same("999 days still", x.about(4), 999);
        Check.same("ahead it goes on: day 1,000", x.will(0, 2, 0), -1);
        Check.same("ahead it goes on: day 1,001", x.will(0, 3, 0), 0);
    }

    private static void wants() {
        BellRingers x = Check.of(THREE);
        Check.same("want(0, 1, 20)", x.want(0, 1, 20), 0);
        Check.same("loss(0, 1)", x.loss(0, 1), 20);
        Check.same("want(0, 1, 20) again", x.want(0, 1, 20), -1);
        Check.same("want(0, 0, 0)", x.want(0, 0, 0), 4);
        Check.same("want(0, 0, 21)", x.want(0, 0, 21), -1);
        Check.same("want(0, 0, -1)", x.want(0, 0, -1), -1);
        Check.same("want(3, 0, 1)", x.want(3, 0, 1), -1);
        Check.same("want(-1, 0, 1)", x.want(-1, 0, 1), -1);
        Check.same("want(0, 2, 1)", x.want(0, 2, 1), -1);
        Check.same("want(0, -1, 1)", x.want(0, -1, 1), -1);
        Check.same("two acts", x.about(6), 2);
        x.leave(1);
        Check.same("one away may want", x.want(1, 1, 8), 7);
        Check.same("four acts", x.about(6), 4);
        x.want(0, 0, 1);
        Check.same("a loss of 1", x.person(0, 3), 3);
    }

    private static void comings() {
        BellRingers x = Check.of(THREE);
        Check.same("come(0), here", x.come(0), -1);
        Check.same("leave(1)", x.leave(1), 2);
        Check.same("leave(1) again", x.leave(1), -1);
        Check.same("about(3)", x.about(3), 5);
        Check.same("leave(3)", x.leave(3), -1);
        Check.same("leave(-1)", x.leave(-1), -1);
        Check.same("come(3)", x.come(3), -1);
        Check.same("come(-1)", x.come(-1), -1);
        Check.same("leave(0)", x.leave(0), 1);
        Check.same("leave(2)", x.leave(2), 0);
        Check.same("a day of nobody", x.day(), 0);
        Check.same("come(1)", x.come(1), 1);
        Check.same("come(1) again", x.come(1), -1);
        Check.same("about(3)", x.about(3), 2);
        Check.same("acts", x.about(6), 5);
    }

    /** Numbers that a shift would take for another one's. */
    private static void farNumbers() {
        BellRingers x = Check.of(THREE);
        x.leave(1);
        int[] far = {32, 33, 64, -32, -31, Integer.MIN_VALUE, Integer.MAX_VALUE};
        for (int n : far) {
            Check.same("leave(" + n + ")", x.leave(n), -1);
            Check.same("come(" + n + ")", x.come(n), -1);
            Check.same("gift(" + n + ", 1)", x.gift(n, 1), -1);
            Check.same("person(" + n + ", 2)", x.person(n, 2), -1);
            Check.same("hides(" + n + ")", x.hides(n), -1);
            Check.same("wish(" + n + ", 0)", x.wish(n, 0), -1);
            Check.same("wish(0, " + n + ")", x.wish(0, n), -1);
            Check.same("ruin(" + n + ")", x.ruin(n), -1);
            Check.same("hushed(" + n + ")", x.hushed(n), -1);
            x.image(0);
            Check.same("image(" + n + ")", x.image(n), -1);
            Check.same("back(" + n + ")", x.back(n), -1);
        }
        Check.same("one act", x.about(6), 1);
    }

    private static void gifts() {
        BellRingers x = Check.of(THREE + "person dan has 950;");
        Check.same("gift(0, 1)", x.gift(0, 1), 21);
        Check.same("gift(0, 99)", x.gift(0, 99), 120);
        Check.same("gift(0, 0)", x.gift(0, 0), -1);
        Check.same("gift(0, 100)", x.gift(0, 100), -1);
        Check.same("gift(0, -1)", x.gift(0, -1), -1);
        Check.same("gift(4, 1)", x.gift(4, 1), -1);
        Check.same("gift(-1, 1)", x.gift(-1, 1), -1);
        Check.same("gift(3, 60)", x.gift(3, 60), 999);
        Check.same("gift(3, 1)", x.gift(3, 1), -1);
        Check.same("acts", x.about(6), 3);
        x.leave(3);
        x.undo();
        Check.same("one away is given", x.leave(0), 3);
        Check.same("one away is given", x.gift(0, 2), 122);
    }

    private static void undone() {
        BellRingers x = Check.of(THREE + "faces 100;draw 5;");
        Check.same("nothing to undo", x.undo(), false);
        x.day();
        x.want(0, 1, 3);
        x.leave(1);
        x.gift(2, 9);
        Check.same("acts", x.about(6), 4);
        Check.same("undo the gift", x.undo(), true);
        Check.same("has", x.person(2, 0), 0);
        Check.same("undo the leaving", x.undo(), true);
        Check.same("here", x.about(3), 7);
        Check.same("undo the want", x.undo(), true);
        Check.same("loss", x.loss(0, 1), 0);
        Check.same("undo the day", x.undo(), true);
        Check.same("undo no more", x.undo(), false);
        int[] due = {20, 30, 5};
        for (int person = 0; person < 3; person++) {
            Check.same("has at first", x.person(person, 0), due[person]);
            Check.same("rang at first", x.person(person, 1), 0);
        }
        Check.same("ann's loss", x.loss(0, 0), 4);
        Check.same("the seed", x.about(5), 5);
        Check.same("the day", x.about(4), 0);
        Check.same("can be undone", x.about(6), 0);
        Check.same("can be redone", x.about(7), 4);
        Check.same("redo the day", x.redo(), true);
        Check.same("ann's loss", x.loss(0, 0), 0);
        Check.same("the seed", x.about(5), 643);
        Check.same("the day", x.about(4), 1);
        Check.same("redo the want", x.redo(), true);
        Check.same("loss", x.loss(0, 1), 3);
        Check.same("a refused act leaves what can be redone", x.want(0, 1, 3), -1);
        Check.same("can be redone", x.about(7), 2);
        Check.same("another act", x.come(1), -1);
        Check.same("another act", x.leave(0), 2);
        Check.same("nothing to redo", x.redo(), false);
        Check.same("can be undone", x.about(6), 3);
        Check.same("undo", x.undo(), true);
        Check.same("here", x.about(3), 7);
        Check.same("redo", x.redo(), true);
        Check.same("here", x.about(3), 6);
    }

    private static void fortyKept() {
        BellRingers x = Check.of("person a has 0;");
        for (int i = 1; i <= 45; i++) {
            x.gift(0, 1);
            Check.same("kept", x.about(6), Math.min(i, 40));
        }
        for (int i = 1; i <= 40; i++) {
            Check.same("undo " + i, x.undo(), true);
            Check.same("has", x.person(0, 0), 45 - i);
        }
        Check.same("the oldest are gone", x.undo(), false);
        Check.same("can be redone", x.about(7), 40);
        for (int i = 1; i <= 40; i++) {
            Check.same("redo " + i, x.redo(), true);
            Check.same("has", x.person(0, 0), 5 + i);
        }
        Check.same("nothing to redo", x.redo(), false);
        x.undo();
        x.undo();
        x.gift(0, 50);
        Check.same("has", x.person(0, 0), 93);
        Check.same("kept", x.about(6), 39);
        x.gift(0, 1);
        x.gift(0, 1);
        Check.same("kept", x.about(6), 40);
        for (int i = 0; i < 3; i++) {
            x.undo();
        }
        Check.same("has", x.person(0, 0), 43);
    }

    public static void main(String[] args) {
        persons();
        losses();
        ringers();
        days();
        foundOut();
        mostRung();
        lastDay();
        wants();
        comings();
        farNumbers();
        gifts();
        undone();
        fortyKept();
        Check.finish();
    }
}
