import java.util.ArrayList;
import java.util.List;

/**
 * Each refused call: what it answers, and that nothing else has changed. Of two objects with the same past one
 * is asked; then both must be alike in all that can be known of them.
 */
public final class RefusedTest {
    private static final int NONE = -1;
    private static final int NO_SUCH = -2;
    private static final int NO_WEIGHT = -1000000000;
    private static final String TEXT = "person ann has 20;person bob has 30;person cid has 5;person dan has 999;"
        + "bell dawn hour 6;bell dusk hour 18;bell noon hour 12;loses ann dawn 4;loses bob dawn 4;loses cid dawn 2;"
        + "loses dan noon 3;loses cid dusk 9;loses bob dusk 7;weighs loss*3-rung+has/10;faces 30;draw 5;";
    /** The people and bells of it. */
    private static final int LAST_PERSON = 3;
    private static final int LAST_BELL = 2;

    private interface None {
        int of(BellRingers x);
    }

    private interface One {
        int of(BellRingers x, int a);
    }

    private interface Two {
        int of(BellRingers x, int a, int b);
    }

    private interface Three {
        int of(BellRingers x, int a, int b, int c);
    }

    private RefusedTest() {
    }

    /** Acts that can be undone and redone, a box, what is seen and untold, what lies there, bytes on the tape. */
    private static BellRingers past() {
        BellRingers x = Check.of(TEXT);
        x.day();
        x.image(1);
        x.want(0, 1, 6);
        x.leave(1);
        x.day();
        x.gift(2, 40);
        x.undo();
        x.seen(1, 0, 0, true);
        x.later(3);
        x.seen(2, 1, 2, true);
        x.later(2);
        x.untell(0);
        x.list();
        Check.put(x, "person eve has 7;bell four hour 4;");
        return x;
    }

    private static void refused(String what, None call, int due) {
        refused(what, past(), past(), call, due);
    }

    private static void refused(String what, BellRingers x, BellRingers twin, None call, int due) {
        Check.same(what, call.of(x), due);
        alike(what, Whole.faults(x), Whole.faults(twin));
        alike(what, Whole.look(x), Whole.look(twin));
        alike(what + ", going on", Whole.goOn(x), Whole.goOn(twin));
    }

    private static void alike(String what, List<Integer> one, List<Integer> other) {
        Check.same(what + ": nothing else has changed", one.equals(other), true);
    }

    /** The next ones on both sides, some that a shift or a cut to fewer bits would take for others, the farthest. */
    private static List<Integer> outside(int least, int most) {
        List<Integer> all = new ArrayList<>();
        int[] tried = {least - 1, most + 1, least - 32, least + 32, least + 64, least - 256, least + 256, least + 65536,
            least - 65536, Integer.MIN_VALUE, Integer.MIN_VALUE + least, Integer.MAX_VALUE};
        for (int n : tried) {
            if (n < least || n > most) {
                all.add(n);
            }
        }
        return all;
    }

    private static void one(String name, int due, One call, int least, int most) {
        for (int a : outside(least, most)) {
            refused(name + "(" + a + ")", x -> call.of(x, a), due);
        }
    }

    private static void two(String name, int due, Two call, int mostA, int leastB, int mostB) {
        for (int a : outside(0, mostA)) {
            refused(name + "(" + a + ", " + leastB + ")", x -> call.of(x, a, leastB), due);
            refused(name + "(" + a + ", " + a + ")", x -> call.of(x, a, a), due);
        }
        for (int b : outside(leastB, mostB)) {
            refused(name + "(0, " + b + ")", x -> call.of(x, 0, b), due);
        }
    }

    private static int number(boolean answer) {
        return answer ? 1 : 0;
    }

    /** Promise 2: NONE, and nothing comes, if there would be more than 1,600. */
    private static void feed() {
        for (int size : new int[] {1581, 1590, 1599, 1600}) {
            refused("2 feed onto " + size, full(size), full(size), x -> x.feed(1, 2, 3, 4, 5), NONE);
        }
    }

    private static BellRingers full(int size) {
        BellRingers x = past();
        x.end(0);
        Check.put(x, "person eve has 7;" + " ".repeat(size - 18) + ";");
        return x;
    }

    /** Promise 3: NONE, doing nothing, if it has not so many, or n is below 0. */
    private static void end() {
        one("3 end", NONE, BellRingers::end, 0, 34);
        BellRingers x = past();
        x.end(33);
        Check.same("3 end(34) of 33", x.end(34), NONE);
        Check.same("3 end(33) of 33", x.end(33), 33);
    }

    /** Promise 4: NONE: a FAULT (all stays). The tape is empty then, and fault() tells of it. */
    private static void village() {
        String[] texts = {"$", "person ann has 3;person ann", "draw 1000;", "loses", "loses ann dawn 3;",
            "person a has 1;bell b hour 2;loses a b 20;weighs day;faces 99;draw 77;faces"};
        int[][] faults = {{1, 0}, {3, 24}, {4, 5}, {2, 5}, {5, 6}, {2, 70}};
        for (int i = 0; i < texts.length; i++) {
            BellRingers x = past();
            BellRingers twin = past();
            x.end(0);
            twin.end(0);
            Check.same("4 village() of " + texts[i], Check.tell(x, texts[i]), NONE);
            Check.same("5 fault(0)", x.fault(0), faults[i][0]);
            Check.same("5 fault(1)", x.fault(1), faults[i][1]);
            Check.same("4 the tape is empty", x.about(10), 0);
            alike("4 village() of " + texts[i], Whole.look(x), Whole.look(twin));
            alike("4 village() of " + texts[i] + ", going on", Whole.goOn(x), Whole.goOn(twin));
        }
    }

    /** Promise 5: NONE for another what. */
    private static void fault() {
        one("5 fault", NONE, BellRingers::fault, 0, 1);
    }

    /** Promises 6 to 10: NONE, -1000000000 or -2 if one can't be. */
    private static void whatIsSo() {
        two("6 person", NONE, BellRingers::person, LAST_PERSON, 0, 4);
        two("7 loss", NONE, BellRingers::loss, LAST_PERSON, 0, LAST_BELL);
        two("8 weight", NO_WEIGHT, BellRingers::weight, LAST_PERSON, 0, LAST_BELL);
        one("9 ringer", NO_SUCH, BellRingers::ringer, 0, LAST_BELL);
        one("10 hour", NONE, BellRingers::hour, 0, LAST_BELL);
    }

    /** Promise 11: NONE, doing nothing, behind 999 of them. (More than 512 calls: only so can it be seen.) */
    private static void day() {
        BellRingers x = past();
        BellRingers twin = past();
        for (int i = 2; i < 999; i++) {
            x.day();
            twin.day();
        }
        x.gift(0, 1);
        twin.gift(0, 1);
        x.undo();
        twin.undo();
        refused("11 day() behind 999", x, twin, BellRingers::day, NONE);
    }

    /** Promise 12: NONE, doing nothing, if it is so, or one can't be. */
    private static void want() {
        two("12 want by 5", NONE, (x, a, b) -> x.want(a, b, 5), LAST_PERSON, 0, LAST_BELL);
        one("12 want(0, 0, loss)", NONE, (x, loss) -> x.want(0, 0, loss), 0, 20);
        refused("12 want what is so", x -> x.want(0, 1, 6), NONE);
        refused("12 want 0 as it is so", x -> x.want(0, 2, 0), NONE);
        refused("12 want of one away what is so", x -> x.want(1, 0, 4), NONE);
    }

    /** Promises 13, 14: NONE, doing nothing, if he is AWAY (HERE), or there is none such. */
    private static void leaveAndCome() {
        one("13 leave", NONE, BellRingers::leave, 0, LAST_PERSON);
        refused("13 leave(1), away", x -> x.leave(1), NONE);
        one("14 come", NONE, BellRingers::come, 0, LAST_PERSON);
        for (int person : new int[] {0, 2, 3}) {
            refused("14 come(" + person + "), here", x -> x.come(person), NONE);
        }
    }

    /** Promise 15: NONE, doing nothing, if he HAS 999, or one can't be. */
    private static void gift() {
        one("15 gift of 1 to", NONE, (x, person) -> x.gift(person, 1), 0, LAST_PERSON);
        one("15 gift of", NONE, (x, more) -> x.gift(0, more), 1, 99);
        for (int more : new int[] {1, 99}) {
            BellRingers x = rich();
            BellRingers twin = rich();
            refused("15 gift(3, " + more + ") who has 999", x, twin, y -> y.gift(3, more), NONE);
        }
    }

    private static BellRingers rich() {
        BellRingers x = past();
        x.gift(3, 99);
        return x;
    }

    /** Promises 16, 17: false if there is none. */
    private static void undoAndRedo() {
        refused("16 undo() of none", without(false), without(false), x -> number(x.undo()), 0);
        refused("17 redo() of none", without(true), without(true), x -> number(x.redo()), 0);
        refused("17 redo() behind another act", another(), another(), x -> number(x.redo()), 0);
        refused("16 undo() behind back()", backed(), backed(), x -> number(x.undo()), 0);
        refused("17 redo() behind back()", backed(), backed(), x -> number(x.redo()), 0);
    }

    /** All is done again, or all taken back. */
    private static BellRingers without(boolean done) {
        BellRingers x = past();
        for (int i = 0; i < 5; i++) {
            if (done) {
                x.redo();
            } else {
                x.undo();
            }
        }
        return x;
    }

    private static BellRingers another() {
        BellRingers x = past();
        x.come(1);
        return x;
    }

    private static BellRingers backed() {
        BellRingers x = past();
        x.back(1);
        return x;
    }

    /** Promises 18 to 20, 30, 37: numbers of days, people, bells and what beyond those told. */
    private static void days() {
        one("18 will bell", NO_SUCH, (x, bell) -> x.will(bell, 1, 0), 0, LAST_BELL);
        one("18 will n", NO_SUCH, (x, n) -> x.will(0, n, 0), 1, 60);
        one("18 will n by faces", NO_SUCH, (x, n) -> x.will(0, n, 1), 1, 60);
        one("18 will what", NO_SUCH, (x, what) -> x.will(0, 1, what), 0, 1);
        two("19 purse", NONE, BellRingers::purse, LAST_PERSON, 0, 60);
        one("20 cost", NONE, BellRingers::cost, 0, 60);
        one("30 slight", NONE, BellRingers::slight, 0, 60);
        one("37 law", NONE, BellRingers::law, 0, 20);
    }

    /** Promises 22 to 25: NONE for another what; 24: or if nobody is HERE. */
    private static void plans() {
        one("22 duties", NONE, BellRingers::duties, 0, 1);
        one("23 hush", NONE, BellRingers::hush, 0, 1);
        one("24 spare", NONE, BellRingers::spare, 0, 1);
        one("25 chorus", NONE, BellRingers::chorus, 0, 1);
        for (int what = -1; what <= 2; what++) {
            int asked = what;
            refused("24 spare(" + what + ") of nobody", left(), left(), x -> x.spare(asked), NONE);
        }
    }

    private static BellRingers left() {
        BellRingers x = past();
        for (int person = 0; person <= LAST_PERSON; person++) {
            x.leave(person);
        }
        return x;
    }

    /** Promises 26 to 28, 38: NONE if he is AWAY, or one can't be. */
    private static void people() {
        two("26 wish", NONE, BellRingers::wish, LAST_PERSON, 0, LAST_BELL);
        for (int bell = 0; bell <= LAST_BELL; bell++) {
            int asked = bell;
            refused("26 wish(1, " + bell + "), away", x -> x.wish(1, asked), NONE);
        }
        one("27 ruin", NONE, BellRingers::ruin, 0, LAST_PERSON);
        one("28 hides", NONE, BellRingers::hides, 0, LAST_PERSON);
        refused("28 hides(1), away", x -> x.hides(1), NONE);
        one("38 hushed", NONE, BellRingers::hushed, 0, LAST_BELL);
    }

    /** Promise 29: NONE if both are one, one is AWAY, or one can't be; behind NONE nothing lies there. */
    private static void staying() {
        Two call = (x, a, b) -> x.staying(a, b) + x.about(12) * 1000;
        List<int[]> pairs = new ArrayList<>();
        for (int a : outside(0, LAST_PERSON)) {
            pairs.add(new int[] {a, 0});
            pairs.add(new int[] {0, a});
            pairs.add(new int[] {a, a});
        }
        for (int a = 0; a <= LAST_PERSON; a++) {
            pairs.add(new int[] {a, a});
            pairs.add(new int[] {a, 1});
            pairs.add(new int[] {1, a});
        }
        for (int[] pair : pairs) {
            refused("29 staying(" + pair[0] + ", " + pair[1] + ")", nothingLies(), nothingLies(),
                x -> call.of(x, pair[0], pair[1]), NONE);
            BellRingers x = past();
            Check.same("29 something lies there", x.about(12), 4);
            Check.same("29 staying", x.staying(pair[0], pair[1]), NONE);
            Check.lie("29 nothing lies there", x);
        }
    }

    private static BellRingers nothingLies() {
        BellRingers x = past();
        x.staying(0, 0);
        return x;
    }

    /** Promises 39, 40: NONE, -2 if one can't be, there is none such. */
    private static void oddsAndLies() {
        one("39 odds n", NONE, (x, n) -> x.odds(n, 0), 0, 4);
        one("39 odds n, lower", NONE, (x, n) -> x.odds(n, 1), 0, 4);
        one("39 odds part", NONE, (x, part) -> x.odds(2, part), 0, 1);
        one("40 lies", NO_SUCH, BellRingers::lies, 0, 3);
    }

    /** Promise 41: NONE, doing nothing, if one can't be, there are 30, or no loses. */
    private static void seen() {
        Three call = (x, day, bell, person) -> x.seen(day, bell, person, true);
        for (int day : outside(1, 12)) {
            refused("41 seen on day " + day, x -> call.of(x, day, 0, 0), NONE);
            refused("41 not seen on day " + day, x -> x.seen(day, 0, 0, false), NONE);
        }
        for (int bell : outside(0, LAST_BELL)) {
            refused("41 seen of bell " + bell, x -> call.of(x, 1, bell, 0), NONE);
        }
        for (int person : outside(0, LAST_PERSON)) {
            refused("41 seen of person " + person, x -> call.of(x, 1, 0, person), NONE);
        }
        refused("41 seen beyond 30", thirty(), thirty(), x -> call.of(x, 1, 0, 0), NONE);
        refused("41 seen beyond 30, untold ones too", untold(), untold(), x -> call.of(x, 1, 0, 0), NONE);
        String bare = "person a has 9;bell x hour 1;weighs 1;";
        refused("41 seen without loses", Check.of(bare), Check.of(bare), x -> call.of(x, 1, 0, 0), NONE);
    }

    private static BellRingers thirty() {
        BellRingers x = past();
        for (int i = 2; i < 30; i++) {
            x.seen(1 + i % 12, 0, i % 4, false);
        }
        return x;
    }

    private static BellRingers untold() {
        BellRingers x = thirty();
        for (int i = 0; i < 30; i++) {
            x.untell(i);
        }
        return x;
    }

    /** Promise 42: false if it is so already, or there is none such. */
    private static void untell() {
        one("42 untell", 0, (x, seen) -> number(x.untell(seen)), 0, 1);
        refused("42 untell(0), untold already", x -> number(x.untell(0)), 0);
        refused("42 untell(0), untold at an earlier time", sooner(), sooner(), x -> number(x.untell(0)), 0);
        refused("42 untell(30) of 30", thirty(), thirty(), x -> number(x.untell(30)), 0);
    }

    private static BellRingers sooner() {
        BellRingers x = past();
        x.later(2);
        return x;
    }

    /** Promise 43: NONE, doing nothing, for another number, or if it would be above 100,000. */
    private static void later() {
        one("43 later", NONE, BellRingers::later, 0, 1000);
        refused("43 later(1000) above 100,000", late(1), late(1), x -> x.later(1000), NONE);
        refused("43 later(1) above 100,000", late(1000), late(1000), x -> x.later(1), NONE);
        Check.same("43 later(999) to 100,000", late(1).later(999), 100000);
    }

    private static BellRingers late(int by) {
        BellRingers x = past();
        x.later(995);
        for (int i = 1; i < 99; i++) {
            x.later(1000);
        }
        x.later(by);
        return x;
    }

    /** Promises 45, 46: NONE if none FITS, or for another what (a DAY that can't be). */
    private static void sureAndAsk() {
        one("45 sure", NONE, (x, what) -> x.sure(what, 5), 0, 1);
        one("46 ask a day", NONE, (x, day) -> x.ask(day, 0, 5), 1, 12);
        one("46 ask a day, how many", NONE, (x, day) -> x.ask(day, 1, 5), 1, 12);
        one("46 ask what", NONE, (x, what) -> x.ask(1, what, 5), 0, 1);
        for (int what = 0; what <= 1; what++) {
            int asked = what;
            refused("45 sure(" + what + ") if none fits", unfit(), unfit(), x -> x.sure(asked, 5), NONE);
            refused("46 ask(1, " + what + ") if none fits", unfit(), unfit(), x -> x.ask(1, asked, 5), NONE);
        }
    }

    /** One bell was rung by two on one day. */
    private static BellRingers unfit() {
        BellRingers x = past();
        x.seen(3, 1, 1, true);
        x.seen(3, 1, 2, true);
        Check.same("44 none fits", x.fits(5), 0);
        return x;
    }

    /** Promises 47 to 49: NONE if there is none such; 48: NONE, doing nothing, if nothing was kept. */
    private static void imagesAndAbout() {
        one("47 image", NONE, BellRingers::image, 0, 2);
        one("48 back", NONE, BellRingers::back, 0, 2);
        refused("48 back(0), nothing kept", x -> x.back(0), NONE);
        refused("48 back(2), nothing kept", x -> x.back(2), NONE);
        one("49 about", NONE, BellRingers::about, 0, 13);
    }

    /** ==== 3: By what is now; nothing is done. What is asked leaves all as it is, but for what lies there. */
    private static void nothingIsDone() {
        None[] asked = {x -> x.person(0, 4), x -> x.weight(0, 0), x -> x.ringer(0), x -> x.will(0, 60, 0),
            x -> x.will(0, 60, 1), x -> x.purse(0, 60), x -> x.cost(60), BellRingers::order, x -> x.duties(0),
            x -> x.duties(1), x -> x.hush(0), x -> x.hush(1), x -> x.spare(0), x -> x.spare(1), x -> x.chorus(0),
            x -> x.chorus(1), x -> x.wish(2, 0), x -> x.ruin(0), x -> x.hides(0), x -> x.staying(0, 2), x -> x.slight(60),
            BellRingers::list, BellRingers::silent, BellRingers::dreaded, BellRingers::untouched, BellRingers::richest,
            BellRingers::busiest, x -> x.law(20), x -> x.hushed(0), x -> x.odds(4, 1), x -> x.fits(5), x -> x.sure(1, 5),
            x -> x.ask(12, 1, 5), x -> x.image(1)};
        for (int i = 0; i < asked.length; i++) {
            BellRingers x = past();
            BellRingers twin = past();
            if (i == asked.length - 1) {
                twin.image(1);
            }
            asked[i].of(x);
            x.list();
            alike("==== 3 the call " + i, Whole.look(x), Whole.look(twin));
            alike("==== 3 the call " + i + ", going on", Whole.goOn(x), Whole.goOn(twin));
        }
    }

    public static void main(String[] args) {
        feed();
        end();
        village();
        fault();
        whatIsSo();
        day();
        want();
        leaveAndCome();
        gift();
        undoAndRedo();
        days();
        plans();
        people();
        staying();
        oddsAndLies();
        seen();
        untell();
        later();
        sureAndAsk();
        imagesAndAbout();
        nothingIsDone();
        Check.finish();
    }
}
