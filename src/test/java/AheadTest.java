/** Promises 18 to 40: what lies ahead, by what is now; and what lies there. */
public final class AheadTest {
    private static final String THREE = ActsTest.THREE;
    private static final String ONE = "person a has 10;bell x hour 0;loses a x 3;";

    private AheadTest() {
    }

    private static void wills() {
        BellRingers x = Check.of(THREE);
        int[] dawn = {0, 1, 0, 1, 0};
        int[] dusk = {2, 2, 2, 2, 1};
        for (int n = 1; n <= 5; n++) {
            Check.same("will(0, " + n + ", 0)", x.will(0, n, 0), dawn[n - 1]);
            Check.same("will(1, " + n + ", 0)", x.will(1, n, 0), dusk[n - 1]);
        }
        int[][] wrong = {{2, 1, 0}, {-1, 1, 0}, {0, 0, 0}, {0, 61, 0}, {0, -1, 0}, {0, 1, 2}, {0, 1, -1}};
        for (int[] three : wrong) {
            Check.same("will of none", x.will(three[0], three[1], three[2]), -2);
        }
        Check.same("silent by then", x.will(0, 60, 0), -1);
        Check.same("nothing is done", x.about(4), 0);
        BellRingers y = Check.of(THREE + "faces 100;");
        Check.same("faces: will(1, 2, 1)", y.will(1, 2, 1), 1);
        Check.same("no faces: will(1, 2, 0)", y.will(1, 2, 0), 2);
        Check.same("faces: will(0, 3, 1)", y.will(0, 3, 1), 2);
        Check.same("faces: will(1, 3, 1)", y.will(1, 3, 1), -1);
        Check.same("the seed stays", y.about(5), 0);
        Check.same("the losses stay", y.loss(0, 0), 4);
        // 5 becomes 756, 643, 162: with faces 44 the second ring and none ahead of it is found out
        BellRingers z = Check.of(THREE + "faces 44;draw 5;");
        Check.same("faces 44: will(0, 3, 1)", z.will(0, 3, 1), 0);
        Check.same("faces 44: will(1, 2, 1)", z.will(1, 2, 1), 1);
        Check.same("by day", Check.of(ONE + "weighs day=59;").will(0, 60, 0), 0);
        Check.same("by day", Check.of(ONE + "weighs day=59;").will(0, 59, 0), -1);
    }

    private static void purses() {
        BellRingers x = Check.of(THREE + "faces 100;");
        int[][] due = {{20, 16, 16, 12, 12, 8}, {30, 30, 26, 26, 22, 15}, {5, 0, 0, 0, 0, 0}};
        int[] cost = {0, 9, 13, 17, 21, 32};
        for (int n = 0; n <= 5; n++) {
            for (int person = 0; person < 3; person++) {
                Check.same("purse(" + person + ", " + n + ")", x.purse(person, n), due[person][n]);
            }
            Check.same("cost(" + n + ")", x.cost(n), cost[n]);
        }
        Check.same("purse(3, 1)", x.purse(3, 1), -1);
        Check.same("purse(-1, 1)", x.purse(-1, 1), -1);
        Check.same("purse(0, -1)", x.purse(0, -1), -1);
        Check.same("purse(0, 61)", x.purse(0, 61), -1);
        Check.same("cost(-1)", x.cost(-1), -1);
        Check.same("cost(61)", x.cost(61), -1);
        BellRingers y = Check.of("person a has 999;bell x hour 0;loses a x 3;weighs 1;");
        Check.same("purse(0, 60)", y.purse(0, 60), 819);
        Check.same("cost(60)", y.cost(60), 180);
        y.leave(0);
        Check.same("purse of one away", y.purse(0, 60), 999);
    }

    private static void orders() {
        BellRingers x = Check.of(THREE);
        Check.same("order()", x.order(), 9);
        Check.lie("the first of like ones", x, 0, 1);
        String turned = "person a has 90;person b has 90;bell x hour 0;bell y hour 0;"
            + "loses a x 9;loses b x 1;loses a y 5;loses b y 4;weighs loss*(rung=0);";
        BellRingers y = Check.of(turned);
        Check.same("cost(1)", y.cost(1), 13);
        Check.same("order()", y.order(), 6);
        Check.lie("the other way round", y, 1, 0);
        // with a third bell that nobody rings the first place is the least number that costs as little
        BellRingers z = Check.of("bell w hour 0;" + turned);
        Check.same("order() of three", z.order(), 6);
        Check.lie("of three", z, 0, 2, 1);
        hoursTellOrder(4, 3, 2, 1, 0);
        hoursTellOrder(2, 4, 0, 3, 1);
        hoursTellOrder(1, 0, 4, 2, 3);
        BellRingers e = Check.of("person a has 5;");
        e.list();
        Check.same("order() without bells", e.order(), 0);
        Check.lie("without bells", e);
    }

    /** A bell's hour is its place: a, who loses 1, rings it only there; elsewhere b does, who loses 20. */
    private static void hoursTellOrder(int... hours) {
        StringBuilder text = new StringBuilder("person a has 999;person b has 999;");
        int[] order = new int[5];
        for (int i = 0; i < 5; i++) {
            char name = (char) ('v' + i);
            text.append("bell ").append(name).append(" hour ").append(hours[i]).append(';');
            text.append("loses a ").append(name).append(" 1;loses b ").append(name).append(" 20;");
            order[hours[i]] = i;
        }
        BellRingers x = Check.of(text + "weighs (loss=1)*(rung=hour)*2+(loss=20);");
        Check.same("order() by hours", x.order(), 5);
        Check.lie("by hours", x, order);
    }

    private static void sharing() {
        BellRingers x = Check.of(THREE);
        Check.same("duties(0)", x.duties(0), 2);
        Check.lie("duties", x, 2, 1);
        Check.same("duties(1)", x.duties(1), 9);
        x.list();
        Check.same("duties(2)", x.duties(2), -1);
        Check.same("duties(-1)", x.duties(-1), -1);
        Check.lie("the list still", x, 0, 1, 2);
        x.leave(1);
        Check.same("without bob: duties(0)", x.duties(0), 2);
        Check.same("without bob: duties(1)", x.duties(1), 13);
        Check.lie("without bob", x, 0, 2);
        x.leave(2);
        Check.same("ann alone: duties(1)", x.duties(1), 4);
        Check.lie("ann alone", x, 0, -1);
        BellRingers y = Check.of("person a has 0;bell x hour 0;bell y hour 0;loses a x 3;loses a y 3;");
        Check.same("one for two: duties(0)", y.duties(0), 1);
        Check.lie("the least number, none behind all", y, 0, -1);
        y.want(0, 0, 4);
        Check.same("one for two: duties(1)", y.duties(1), 3);
        Check.lie("the least loss", y, -1, 0);
        BellRingers z = Check.of("person a has 0;person b has 0;bell x hour 0;bell y hour 0;"
            + "loses a x 5;loses a y 5;loses b x 5;loses b y 5;weighs 0;");
        Check.same("all alike: duties(1)", z.duties(1), 10);
        Check.lie("all alike", z, 0, 1);
        BellRingers v = Check.of("person a has 0;bell x hour 0;loses a x 1;");
        Check.same("a loss of 1: duties(0)", v.duties(0), 1);
        // more bells go ahead of less loss
        BellRingers w = Check.of("person a has 0;person b has 0;bell x hour 0;bell y hour 0;"
            + "loses a x 1;loses a y 20;loses b x 20;");
        Check.same("as many as can be: duties(0)", w.duties(0), 2);
        Check.same("as many as can be: duties(1)", w.duties(1), 40);
        Check.lie("as many as can be", w, 1, 0);
    }

    private static void sending() {
        BellRingers x = Check.of(THREE);
        Check.same("hush(0)", x.hush(0), 3);
        Check.same("hush(1)", x.hush(1), 7);
        Check.same("hush(2)", x.hush(2), -1);
        Check.same("hush(-1)", x.hush(-1), -1);
        x.leave(1);
        Check.same("without bob: hush(0)", x.hush(0), 2);
        Check.same("without bob: hush(1)", x.hush(1), 5);
        BellRingers y = Check.of("person c has 5;" + THREE + "weighs here>3;");
        Check.same("one of all: hush(0)", y.hush(0), 1);
        Check.same("one of all: hush(1)", y.hush(1), 1);
        BellRingers z = Check.of("person c has 5;" + THREE + "weighs here=4 or here=3 and has=5;");
        Check.same("two, or the one without: hush(1)", z.hush(1), 8);
        Check.same("silent already: hush(0)", Check.of(THREE + "weighs 0;").hush(0), 0);
        Check.same("silent already: hush(1)", Check.of(THREE + "weighs 0;").hush(1), 0);
        Check.same("all are here still", x.about(3), 5);
    }

    private static void sparing() {
        BellRingers x = Check.of(THREE);
        Check.same("spare(0)", x.spare(0), 0);
        Check.same("spare(1)", x.spare(1), 9);
        Check.same("spare(2)", x.spare(2), -1);
        Check.same("spare(-1)", x.spare(-1), -1);
        x.gift(2, 4);
        Check.same("cid loses 9: spare(0)", x.spare(0), 2);
        Check.same("cid loses 9: spare(1)", x.spare(1), 11);
        x.leave(2);
        Check.same("of two: spare(0)", x.spare(0), 1);
        Check.same("of two: spare(1)", x.spare(1), 4);
        x.leave(0);
        x.leave(1);
        Check.same("of none: spare(0)", x.spare(0), -1);
        Check.same("of none: spare(1)", x.spare(1), -1);
    }

    private static void singing() {
        BellRingers x = Check.of(THREE + "weighs 0;");
        Check.same("chorus(0)", x.chorus(0), 1);
        Check.same("chorus(1)", x.chorus(1), 2);
        Check.same("chorus(2)", x.chorus(2), -1);
        Check.same("chorus(-1)", x.chorus(-1), -1);
        x.leave(1);
        Check.same("without bob: chorus(1)", x.chorus(1), 4);
        x.want(2, 0, 0);
        Check.same("two are needed: chorus(0)", x.chorus(0), 2);
        Check.same("two are needed: chorus(1)", x.chorus(1), 5);
        x.leave(2);
        Check.same("dawn alone: chorus(1)", x.chorus(1), 1);
        x.want(0, 0, 1);
        Check.same("a loss of 1: chorus(1)", x.chorus(1), 1);
        x.want(0, 0, 0);
        Check.same("no losses: chorus(0)", x.chorus(0), 0);
        x.leave(0);
        Check.same("nobody: chorus(0)", x.chorus(0), 0);
        Check.same("nobody: chorus(1)", x.chorus(1), 0);
    }

    private static void wishes() {
        BellRingers x = Check.of(THREE);
        int[][] due = {{4, 10}, {5, 9}, {5, 8}};
        for (int person = 0; person < 3; person++) {
            for (int bell = 0; bell < 2; bell++) {
                Check.same("wish(" + person + ", " + bell + ")", x.wish(person, bell), due[person][bell]);
            }
        }
        Check.same("wish(3, 0)", x.wish(3, 0), -1);
        Check.same("wish(-1, 0)", x.wish(-1, 0), -1);
        Check.same("wish(0, 2)", x.wish(0, 2), -1);
        Check.same("wish(0, -1)", x.wish(0, -1), -1);
        x.leave(0);
        Check.same("wish of one away", x.wish(0, 0), -1);
        Check.same("wish(2, 0) without ann", x.wish(2, 0), 5);
        Check.same("by none", Check.of(THREE + "weighs 0;").wish(0, 0), -1);
        Check.same("by 20 alone", Check.of(THREE + "weighs loss>19;").wish(1, 1), 20);
        Check.same("by 21", Check.of(THREE + "weighs loss>20;").wish(1, 1), -1);
        Check.same("one without a loss", Check.of(THREE + "weighs 1;").wish(0, 1), 1);
    }

    private static void ruins() {
        BellRingers x = Check.of(THREE);
        Check.same("ruin(2)", x.ruin(2), 1);
        Check.same("ruin(1)", x.ruin(1), 10);
        Check.same("ruin(0)", x.ruin(0), -1);
        Check.same("ruin(3)", x.ruin(3), -1);
        Check.same("ruin(-1)", x.ruin(-1), -1);
        Check.same("10 by 3", Check.of(ONE + "weighs 1;").ruin(0), 4);
        Check.same("3, 2, 1 times", Check.of(ONE).ruin(0), -1);
        Check.same("nothing at first", Check.of("person a has 0;").ruin(0), 0);
        Check.same("60 days", Check.of("person a has 60;bell x hour 0;loses a x 1;weighs 1;").ruin(0), 60);
        Check.same("61 days", Check.of("person a has 61;bell x hour 0;loses a x 1;weighs 1;").ruin(0), -1);
        Check.same("nobody is found out", Check.of(ONE + "weighs 1;faces 100;").ruin(0), 4);
    }

    private static void hiding() {
        BellRingers x = Check.of(THREE);
        Check.same("hides(0)", x.hides(0), 2);
        Check.same("hides(1)", x.hides(1), 0);
        Check.same("hides(2)", x.hides(2), 2);
        Check.same("hides(3)", x.hides(3), -1);
        Check.same("hides(-1)", x.hides(-1), -1);
        x.leave(1);
        Check.same("without bob: hides(0)", x.hides(0), 4);
        Check.same("without bob: hides(2)", x.hides(2), 0);
        Check.same("hides(1), away", x.hides(1), -1);
        // without the first the others ring what they rang not, one of them less than as it is
        BellRingers y = Check.of("person a has 9;person b has 9;person c has 9;bell x hour 0;bell y hour 0;"
            + "loses a x 9;loses b x 5;loses b y 5;loses c y 5;");
        Check.same("both hide", y.hides(0), 6);
        Check.same("the first one hides", Check.of(THREE + "weighs loss+has;").hides(1), 5);
    }

    private static void two() {
        BellRingers x = Check.of(THREE);
        Check.same("staying(0, 2)", x.staying(0, 2), 1);
        Check.lie("both go", x, 0, 0);
        Check.same("staying(0, 1)", x.staying(0, 1), 1);
        Check.lie("both go", x, 0, 0);
        int[][] wrong = {{0, 0}, {3, 0}, {0, 3}, {-1, 0}, {0, -1}, {32, 1}, {1, 32}, {64, 2}, {-32, 1}, {1, -32}};
        for (int[] pair : wrong) {
            x.list();
            Check.same("staying of no two", x.staying(pair[0], pair[1]), -1);
            Check.lie("nothing", x);
        }
        x.leave(1);
        x.list();
        Check.same("staying(0, 1), one away", x.staying(0, 1), -1);
        Check.lie("nothing", x);
        Check.same("staying(1, 0), one away", x.staying(1, 0), -1);
        String pair = "person a has 9;person b has 9;bell x hour 1;";
        BellRingers three = Check.of(pair + "loses a x 3;loses b x 3;");
        Check.same("like losses: three rests", three.staying(0, 1), 3);
        Check.lie("the first of three", three, 0, 0);
        BellRingers both = Check.of(pair + "loses a x 2;loses b x 2;");
        Check.same("lesser losses: one rest", both.staying(0, 1), 1);
        Check.lie("both stay", both, 1, 1);
        BellRingers poor = Check.of("person a has 2;person b has 9;bell x hour 1;loses a x 20;loses b x 20;");
        Check.same("who has 2 can lose 2", poor.staying(0, 1), 1);
        Check.lie("both stay", poor, 1, 1);
        BellRingers uneven = Check.of(pair + "loses a x 9;loses b x 2;");
        Check.same("one goes", uneven.staying(0, 1), 1);
        Check.lie("the first one goes", uneven, 0, 1);
        Check.same("one goes, asked the other way", uneven.staying(1, 0), 1);
        Check.lie("the other one goes", uneven, 1, 0);
        BellRingers none = Check.of(pair + "bell y hour 2;loses a x 5;loses b y 5;"
            + "weighs here>1 and hour=1 or here=1 and hour=2;");
        none.list();
        Check.same("no rest", none.staying(0, 1), 0);
        Check.lie("nothing", none);
    }

    private static void slights() {
        BellRingers x = Check.of(THREE);
        Check.same("slight(0)", x.slight(0), 7);
        Check.same("slight(1)", x.slight(1), 2);
        Check.same("slight(2)", x.slight(2), 0);
        Check.same("slight(60)", x.slight(60), 0);
        Check.same("slight(-1)", x.slight(-1), -1);
        Check.same("slight(61)", x.slight(61), -1);
        x.leave(0);
        Check.same("slight(0) without ann", x.slight(0), 6);
        Check.same("slight(1) without ann", x.slight(1), 0);
        Check.same("on the 60th day", Check.of(ONE + "weighs day=59;").slight(60), 0);
        Check.same("not ahead of it", Check.of(ONE + "weighs day=59;").slight(59), 1);
        Check.same("nobody is found out", Check.of("person a has 9;person b has 9;bell x hour 0;"
            + "loses a x 9;loses b x 5;weighs loss;faces 100;").slight(60), 2);
    }

    private static void lists() {
        BellRingers x = Check.of(THREE);
        Check.same("list()", x.list(), 3);
        Check.lie("at first", x, 0, 1, 2);
        x.day();
        x.list();
        Check.lie("behind a day", x, 0, 2, 1);
        x.leave(2);
        x.come(2);
        x.day();
        x.leave(2);
        x.list();
        Check.lie("those away too", x, 2, 0, 1);
        Check.same("lies(-1)", x.lies(-1), -2);
        Check.same("lies(3)", x.lies(3), -2);
        Check.same("lies(2147483647)", x.lies(Integer.MAX_VALUE), -2);
        x.day();
        Check.lie("it lies there till another comes", x, 2, 0, 1);
    }

    private static void wholes() {
        BellRingers x = Check.of(THREE + "bell noon hour 12;person dan has 30;");
        Check.same("silent()", x.silent(), 4);
        Check.same("dreaded()", x.dreaded(), 1);
        Check.same("untouched()", x.untouched(), 8);
        Check.same("richest(), the first of like ones", x.richest(), 1);
        Check.same("busiest()", x.busiest(), 0);
        x.leave(2);
        Check.same("dreaded() without cid", x.dreaded(), 0);
        Check.same("busiest() without cid", x.busiest(), 0);
        x.leave(0);
        Check.same("dreaded() without ann", x.dreaded(), 1);
        Check.same("busiest() without ann", x.busiest(), 1);
        x.leave(1);
        Check.same("dreaded() without all", x.dreaded(), 0);
        Check.same("busiest() without all", x.busiest(), -1);
        Check.same("silent() without all", x.silent(), 7);
        Check.same("untouched() without all", x.untouched(), 8);
        Check.same("richest() without all", x.richest(), 1);
        x.gift(3, 1);
        Check.same("richest()", x.richest(), 3);
        x.want(0, 0, 0);
        Check.same("untouched()", x.untouched(), 9);
        BellRingers y = new BellRingers();
        Check.same("dreaded() of none", y.dreaded(), -1);
        Check.same("richest() of none", y.richest(), -1);
        Check.same("busiest() of none", y.busiest(), -1);
        Check.same("silent() of none", y.silent(), 0);
        Check.same("untouched() of none", y.untouched(), 0);
        Check.same("richest() of poor ones", Check.of("person a has 0;").richest(), 0);
        BellRingers z = Check.of("bell z hour 0;" + THREE + "loses bob z 5;");
        Check.same("busiest(), all ring one", z.busiest(), 0);
        z.leave(2);
        Check.same("busiest(), not the first", z.busiest(), 1);
    }

    private static void laws() {
        BellRingers x = Check.of(THREE);
        Check.same("law(0)", x.law(0), 0);
        Check.same("law(1)", x.law(1), 2);
        Check.same("law(20)", x.law(20), 2);
        Check.same("law(-1)", x.law(-1), -1);
        Check.same("law(21)", x.law(21), -1);
        BellRingers y = Check.of("person a has 9;bell x hour 0;bell y hour 0;loses a x 9;loses a y 9;");
        Check.same("one alone: law(1)", y.law(1), 1);
        Check.same("one alone: law(2)", y.law(2), 2);
        Check.same("a loss of 1", Check.of("person a has 9;bell x hour 0;loses a x 1;weighs loss=5;").law(5), 1);
        Check.same("no new losses", Check.of(ONE + "bell y hour 0;").law(5), 1);
        y.law(3);
        Check.same("the losses stay", y.loss(0, 0), 9);
    }

    private static void silences() {
        BellRingers x = Check.of(ONE + "bell y hour 0;");
        Check.same("hushed(0)", x.hushed(0), 4);
        Check.same("hushed(1)", x.hushed(1), 1);
        Check.same("hushed(2)", x.hushed(2), -1);
        Check.same("hushed(-1)", x.hushed(-1), -1);
        Check.same("never", Check.of(ONE + "weighs 1;").hushed(0), -1);
        Check.same("on the 60th day", Check.of(ONE + "weighs day<59;").hushed(0), 60);
        Check.same("on the 61st day", Check.of(ONE + "weighs day<60;").hushed(0), -1);
        Check.same("nobody is found out", Check.of(ONE + "weighs 1;faces 100;").hushed(0), -1);
    }

    /** As many people and bells as can be: who is numbered i loses i + 1 by the bell i, the last one 20 by each. */
    private static void fullVillage() {
        StringBuilder text = new StringBuilder();
        for (int i = 0; i < 6; i++) {
            text.append("person ").append((char) ('a' + i)).append(" has 100;");
        }
        for (int i = 0; i < 5; i++) {
            char name = (char) ('v' + i);
            text.append("bell ").append(name).append(" hour ").append(i).append(';');
            text.append("loses ").append((char) ('a' + i)).append(' ').append(name).append(' ').append(i + 1).append(';');
            text.append("loses f ").append(name).append(" 20;");
        }
        BellRingers x = Check.of(text + "weighs loss;");
        Check.same("full: person(5, 4)", x.person(5, 4), 31);
        Check.same("full: cost(1)", x.cost(1), 100);
        Check.same("full: hides(5)", x.hides(5), 31);
        Check.same("full: hides(0)", x.hides(0), 0);
        Check.same("full: duties(0)", x.duties(0), 5);
        Check.lie("full: duties", x, 0, 1, 2, 3, 4);
        Check.same("full: duties(1)", x.duties(1), 15);
        Check.same("full: hush(1)", x.hush(1), 63);
        Check.same("full: spare(0)", x.spare(0), 5);
        Check.same("full: spare(1)", x.spare(1), 15);
        Check.same("full: chorus(1)", x.chorus(1), 32);
        Check.same("full: slight(60)", x.slight(60), 31);
        Check.same("full: busiest()", x.busiest(), 5);
        Check.same("full: ruin(5)", x.ruin(5), 1);
        Check.same("full: staying(0, 5)", x.staying(0, 5), 1);
        Check.lie("full: staying", x, 1, 0);
        Check.same("full: day()", x.day(), 100);
        Check.same("full: list()", x.list(), 6);
        Check.lie("full: list", x, 5, 0, 1, 2, 3, 4);
        for (int person = 0; person < 6; person++) {
            for (int bell = 0; bell < 5; bell++) {
                x.want(person, bell, 7);
            }
        }
        Check.same("all alike: duties(1)", x.duties(1), 35);
        Check.lie("all alike: duties", x, 0, 1, 2, 3, 4);
        Check.same("all alike: person(0, 4)", x.person(0, 4), 31);
        Check.same("all alike: chorus(1)", x.chorus(1), 1);
    }

    private static void odds(int faces, int n, int upper, int lower) {
        BellRingers x = Check.of("faces " + faces + ";");
        Check.same("faces " + faces + ": odds(" + n + ", 0)", x.odds(n, 0), upper);
        Check.same("faces " + faces + ": odds(" + n + ", 1)", x.odds(n, 1), lower);
    }

    private static void allOdds() {
        odds(30, 0, 1, 1);
        odds(30, 1, 7, 10);
        odds(30, 2, 49, 100);
        odds(30, 3, 343, 1000);
        odds(30, 4, 2401, 10000);
        odds(0, 4, 1, 1);
        odds(100, 0, 1, 1);
        odds(100, 1, 0, 1);
        odds(100, 4, 0, 1);
        odds(50, 4, 1, 16);
        odds(25, 3, 27, 64);
        odds(1, 4, 96059601, 100000000);
        odds(99, 4, 1, 100000000);
        BellRingers x = new BellRingers();
        Check.same("odds(1, 0) of nothing told", x.odds(1, 0), 1);
        Check.same("odds(-1, 0)", x.odds(-1, 0), -1);
        Check.same("odds(5, 0)", x.odds(5, 0), -1);
        Check.same("odds(1, 2)", x.odds(1, 2), -1);
        Check.same("odds(1, -1)", x.odds(1, -1), -1);
    }

    public static void main(String[] args) {
        wills();
        purses();
        orders();
        sharing();
        sending();
        sparing();
        singing();
        wishes();
        ruins();
        hiding();
        two();
        slights();
        lists();
        wholes();
        laws();
        silences();
        fullVillage();
        allOdds();
        Check.finish();
    }
}
