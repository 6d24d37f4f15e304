import java.util.ArrayList;
import java.util.List;

/** The edges of promises 6 to 17 and of "==== 2": a method for each sentence that names one. */
public final class EdgeActsTest {
    private static final String ONE = "person a has 50;bell x hour 7;loses a x 3;";
    private static final String PAIR = "person a has 50;person b has 50;bell x hour 7;loses a x 3;loses b x 3;";
    private static final String FULL = "person a has 0;person b has 999;person c has 9;person d has 9;person e has 9;"
        + "person f has 9;bell v hour 0;bell w hour 1;bell x hour 2;bell y hour 3;bell z hour 23;"
        + "loses a v 1;loses a w 1;loses a x 1;loses a y 1;loses a z 1;loses f z 20;loses f v 20;";

    private EdgeActsTest() {
    }

    // ---- ==== 2

    /** "HAS so much (as told, at first), RANG so often (0), is HERE, has a LOSS by each BELL (as told, else 0)" */
    private static void atFirst() {
        BellRingers x = Check.of(FULL);
        int[] has = {0, 999, 9, 9, 9, 9};
        int[] fears = {31, 0, 0, 0, 0, 17};
        for (int person = 0; person < 6; person++) {
            Check.same("6 has at first", x.person(person, 0), has[person]);
            Check.same("6 rang at first", x.person(person, 1), 0);
            Check.same("6 here at first", x.person(person, 2), 1);
            Check.same("6 losses as bits", x.person(person, 3), fears[person]);
            for (int bell = 0; bell < 5; bell++) {
                int told = person == 0 ? 1 : person == 5 && (bell == 0 || bell == 4) ? 20 : 0;
                Check.same("7 loss(" + person + ", " + bell + ")", x.loss(person, bell), told);
                Check.same("8 weight: loss - rung, if not told", x.weight(person, bell), told);
            }
        }
        // he rings w by a weight of 1, then he has rung once, and 1 - 1 is not above 0
        Check.same("6 the first one rings", x.person(0, 4), 2);
        Check.same("6 the last one rings", x.person(5, 4), 17);
        Check.same("7 loss(6, 0)", x.loss(6, 0), -1);
        Check.same("7 loss(5, 5)", x.loss(5, 5), -1);
        Check.same("8 weight(6, 0)", x.weight(6, 0), -1000000000);
        Check.same("8 weight(0, 5)", x.weight(0, 5), -1000000000);
        Check.same("9 ringer(5)", x.ringer(5), -2);
        Check.same("10 hour(5)", x.hour(5), -1);
    }

    private static void comes(String formula, int due) {
        BellRingers x = Check.of(ONE + "weighs " + formula + ";");
        Check.same("8 " + formula, x.weight(0, 0), due);
    }

    /** "ints, wrapping" */
    private static void wrapping() {
        String two31 = "2048*1024*1024";
        comes(two31, Integer.MIN_VALUE);
        comes(two31 + "-1", Integer.MAX_VALUE);
        comes(two31 + "-1+1", Integer.MIN_VALUE);
        comes("0-" + two31, Integer.MIN_VALUE);
        comes("0-" + two31 + "-1", Integer.MAX_VALUE);
        comes(two31 + "*2", 0);
        comes("4096*1024*1024", 0);
        comes(two31 + "*3", Integer.MIN_VALUE);
        comes("(" + two31 + "-1)*2", -2);
        comes("9999*9999*9999", 9999 * 9999 * 9999);
        comes("9999*9999*9999*9999*9999", 9999 * 9999 * 9999 * 9999 * 9999);
        comes(two31 + "/(0-1)", Integer.MIN_VALUE);
        comes(two31 + "%(0-1)", 0);
        comes(two31 + "<0", 1);
        comes(two31 + "-1>" + two31, 1);
        comes(two31 + "<" + two31 + "-1", 1);
        comes("not " + two31, 0);
        comes(two31 + " and 1", 1);
    }

    /** "/ cut, % its rest, both by 0: 0" */
    private static void dividing() {
        int[][] all = {{7, 2}, {-7, 2}, {7, -2}, {-7, -2}, {6, 3}, {-6, 3}, {1, 2}, {-1, 2}, {0, 5}, {0, -5}, {9999, 1}};
        for (int[] two : all) {
            String left = two[0] < 0 ? "(0-" + -two[0] + ")" : "" + two[0];
            String right = two[1] < 0 ? "(0-" + -two[1] + ")" : "" + two[1];
            int cut = Math.abs(two[0]) / Math.abs(two[1]) * Integer.signum(two[0]) * Integer.signum(two[1]);
            comes(left + "/" + right, cut);
            comes(left + "%" + right, two[0] - cut * two[1]);
        }
        for (String left : List.of("0", "7", "(0-7)", "2048*1024*1024", "loss")) {
            for (String zero : List.of("0", "(1-1)", "rung", "day", "(0*5)")) {
                comes(left + "/" + zero, 0);
                comes(left + "%" + zero, 0);
                comes("5+" + left + "/" + zero, 5);
                comes("5+" + left + "%" + zero + "*3", 5);
            }
        }
        comes("7/0/0", 0);
        comes("7%0%0", 0);
        comes("0/0+1", 1);
    }

    /** "relations, and, or, not are 1 or 0, of what is not 0" */
    private static void truths() {
        String[] values = {"0", "1", "2", "(0-1)", "9999"};
        int[] numbers = {0, 1, 2, -1, 9999};
        for (int i = 0; i < values.length; i++) {
            comes("not " + values[i], numbers[i] == 0 ? 1 : 0);
            comes("not not " + values[i], numbers[i] == 0 ? 0 : 1);
            for (int j = 0; j < values.length; j++) {
                comes(values[i] + " and " + values[j], numbers[i] != 0 && numbers[j] != 0 ? 1 : 0);
                comes(values[i] + " or " + values[j], numbers[i] != 0 || numbers[j] != 0 ? 1 : 0);
                comes(values[i] + "<" + values[j], numbers[i] < numbers[j] ? 1 : 0);
                comes(values[i] + ">" + values[j], numbers[i] > numbers[j] ? 1 : 0);
                comes(values[i] + "=" + values[j], numbers[i] == numbers[j] ? 1 : 0);
            }
        }
    }

    /** "by loss, has, rung, hour, here (how many are HERE), day (0 at first)", each at its ends. */
    private static void words() {
        BellRingers x = Check.of(FULL + "weighs here;");
        for (int here = 6; here > 0; here--) {
            Check.same("8 here", x.weight(0, 0), here);
            Check.same("8 here, of one away", x.weight(5, 0), here);
            x.leave(here - 1);
        }
        Check.same("8 nobody is here", x.weight(0, 0), 0);
        BellRingers y = Check.of(FULL + "weighs hour;");
        Check.same("8 hour 0", y.weight(0, 0), 0);
        Check.same("8 hour 23", y.weight(0, 4), 23);
        BellRingers z = Check.of(FULL + "weighs has;");
        Check.same("8 has 0", z.weight(0, 0), 0);
        Check.same("8 has 999", z.weight(1, 0), 999);
        BellRingers d = Check.of(ONE + "weighs day;");
        for (int day = 0; day < 30; day++) {
            Check.same("8 day", d.weight(0, 0), day);
            d.day();
        }
        BellRingers l = Check.of(ONE + "weighs loss*100+rung;");
        for (int loss = 0; loss <= 20; loss++) {
            l.want(0, 0, loss);
            Check.same("8 loss", l.weight(0, 0), loss * 100);
        }
        l.day();
        Check.same("8 rung", l.weight(0, 0), 2001);
    }

    /** "of those HERE with a LOSS by it above 0 and a WEIGHT above 0 the one of the greatest WEIGHT; of like ones the first" */
    private static void ringers() {
        int[] losses = {0, 1, 2};
        for (int loss : losses) {
            BellRingers x = Check.of(ONE + "weighs 1;");
            x.want(0, 0, loss);
            Check.same("9 by a loss of " + loss, x.ringer(0), loss > 0 ? 0 : -1);
        }
        String[] weights = {"0-2", "0-1", "0", "1", "2", "2048*1024*1024", "2048*1024*1024-1"};
        for (String weight : weights) {
            BellRingers x = Check.of(ONE + "weighs " + weight + ";");
            Check.same("9 by a weight of " + weight, x.ringer(0), x.weight(0, 0) > 0 ? 0 : -1);
        }
        Check.same("9 of like ones the first", Check.of(PAIR).ringer(0), 0);
        BellRingers more = Check.of(PAIR);
        more.want(1, 0, 4);
        Check.same("9 the greatest", more.ringer(0), 1);
        more.want(0, 0, 4);
        Check.same("9 of like ones the first, whoever was told last", more.ringer(0), 0);
        more.leave(0);
        Check.same("9 of those here", more.ringer(0), 1);
        more.leave(1);
        Check.same("9 nobody is here", more.ringer(0), -1);
        // MAX_VALUE against MIN_VALUE: no difference of the two decides
        BellRingers far = Check.of(PAIR + "weighs 2048*1024*1024-(has=50);");
        Check.same("9 the greatest of all weights", far.ringer(0), 0);
        far.gift(0, 1);
        Check.same("9 and the least", far.ringer(0), 1);
        BellRingers six = Check.of(FULL + "weighs 5;");
        Check.same("9 of six", six.ringer(0), 0);
        six.leave(0);
        Check.same("9 the last of six", six.ringer(0), 5);
        Check.same("9 silent", six.ringer(1), -1);
    }

    /** "BELL by BELL (as told), by what is so then" */
    private static void bellByBell() {
        // by has: 10 and 9; each bell costs its ringer 3, so they take turns
        String text = "person a has 10;person b has 9;bell v hour 9;bell w hour 5;bell x hour 1;"
            + "loses a v 3;loses a w 3;loses a x 3;loses b v 3;loses b w 3;loses b x 3;weighs has;";
        BellRingers x = Check.of(text);
        Check.same("6 a rings the first and the third", x.person(0, 4), 5);
        Check.same("6 b rings the second", x.person(1, 4), 2);
        Check.same("9 ringer(1), ahead of all others", x.ringer(1), 0);
        Check.same("11 lost", x.day(), 9);
        Check.same("6 a has", x.person(0, 0), 4);
        Check.same("6 b has", x.person(1, 0), 6);
        Check.same("6 a rang", x.person(0, 1), 2);
        Check.same("6 b rang", x.person(1, 1), 1);
        Check.same("11 the day goes up by 1", x.about(4), 1);
        // the day goes up behind the last bell only
        BellRingers y = Check.of("person a has 9;bell v hour 1;bell w hour 1;loses a v 1;loses a w 1;weighs day=0;");
        Check.same("11 all bells of one day", y.day(), 2);
        Check.same("11 none of the next", y.day(), 0);
    }

    /** "HAS less by his LOSS (0 at least; by so much is LOST)" */
    private static void nothingBelowZero() {
        int[] has = {0, 1, 2, 3, 4, 19, 20, 21};
        for (int had : has) {
            for (int loss : new int[] {1, 3, 20}) {
                BellRingers x = Check.of("person a has " + had + ";bell x hour 0;loses a x " + loss + ";");
                int lost = Math.min(had, loss);
                Check.same("20 cost(1)", x.cost(1), lost);
                Check.same("19 purse(0, 1)", x.purse(0, 1), had - lost);
                Check.same("11 lost of " + had + " by " + loss, x.day(), lost);
                Check.same("6 has then", x.person(0, 0), had - lost);
                Check.same("6 who has nothing rings, too", x.person(0, 1), 1);
            }
        }
    }

    /** "RANG once more (999 at most)" */
    private static void rangAtMost() {
        BellRingers x = Check.of("person a has 999;bell v hour 1;bell w hour 1;bell x hour 1;bell y hour 1;bell z hour 1;"
            + "loses a v 1;loses a w 1;loses a x 1;loses a y 1;loses a z 1;weighs rung<1000;");
        for (int i = 1; i <= 199; i++) {
            x.day();
        }
        Check.same("6 rang 995", x.person(0, 1), 995);
        x.day();
        Check.same("6 rang 999", x.person(0, 1), 999);
        Check.same("8 weight by 999", x.weight(0, 0), 1);
        x.day();
        Check.same("6 999 at most", x.person(0, 1), 999);
        Check.same("18 ahead 999 at most, too", x.will(4, 60, 0), 0);
        Check.same("38 never hushed", x.hushed(0), -1);
        x.undo();
        x.undo();
        Check.same("16 995 again", x.person(0, 1), 995);
    }

    /** "then, if it was rung, the SEED becomes its 137-fold and 71 more, modulo 1,000, and if its rest by 100 is less than faces tells" */
    private static void seeds() {
        for (int faces : new int[] {0, 1, 2, 50, 99, 100}) {
            for (int draw = 0; draw < 1000; draw += faces == 50 ? 1 : 7) {
                BellRingers x = Check.of(ONE + "weighs 1;faces " + faces + ";draw " + draw + ";");
                int seed = draw;
                boolean out = false;
                for (int i = 0; i < 3; i++) {
                    x.day();
                    if (!out) {
                        seed = (seed * 137 + 71) % 1000;
                        out = seed % 100 < faces;
                    }
                    Check.same("49 the seed of " + draw, x.about(5), seed);
                    Check.same("7 found out by " + seed + " of " + faces, x.loss(0, 0), out ? 0 : 3);
                }
            }
        }
        BellRingers silent = Check.of("person a has 9;bell x hour 1;faces 100;draw 5;");
        silent.day();
        Check.same("49 not rung: the seed stays", silent.about(5), 5);
        // found out by one bell alone
        BellRingers two = Check.of("person a has 9;bell v hour 1;bell w hour 1;loses a v 2;loses a w 2;faces 57;draw 5;");
        Check.same("11 lost", two.day(), 4);
        // 5 becomes 756, then 643
        Check.same("7 found out by 56 of 57", two.loss(0, 0), 0);
        Check.same("7 found out by 43 of 57", two.loss(0, 1), 0);
        BellRingers less = Check.of("person a has 9;bell v hour 1;bell w hour 1;loses a v 2;loses a w 2;faces 56;draw 5;");
        less.day();
        Check.same("7 not by 56 of 56", less.loss(0, 0), 2);
        Check.same("7 but by 43 of 56", less.loss(0, 1), 0);
    }

    // ---- ACTS

    private interface Act {
        void on(BellRingers x);
    }

    /** "ACTS: a DAY; one WANTS; one leaves, or comes; one is given more": each is kept, undone and done again. */
    private static void eachAct() {
        Act[] acts = {BellRingers::day, x -> x.want(0, 0, 0), x -> x.want(1, 0, 20), x -> x.leave(0), x -> x.leave(1),
            x -> x.come(1), x -> x.gift(0, 1), x -> x.gift(1, 99), BellRingers::day};
        BellRingers x = Check.of(PAIR + "faces 40;draw 3;");
        List<List<Integer>> states = new ArrayList<>();
        states.add(Whole.state(x));
        for (int i = 0; i < acts.length; i++) {
            acts[i].on(x);
            Check.same("49 acts that can be undone", x.about(6), i + 1);
            Check.same("49 acts that can be redone", x.about(7), 0);
            Check.same("17 none to redo", x.redo(), false);
            states.add(Whole.state(x));
        }
        for (int i = acts.length - 1; i >= 0; i--) {
            Check.same("16 undo", x.undo(), true);
            Check.same("16 as it was", Whole.state(x).equals(states.get(i)), true);
            Check.same("49 undone", x.about(6), i);
            Check.same("49 redone", x.about(7), acts.length - i);
        }
        Check.same("16 undo none", x.undo(), false);
        for (int i = 1; i <= acts.length; i++) {
            Check.same("17 redo", x.redo(), true);
            Check.same("17 as it was", Whole.state(x).equals(states.get(i)), true);
        }
        Check.same("17 redo none", x.redo(), false);
    }

    /** "(till another ACT)": each sort of ACT ends what could be redone; what is refused does not. */
    private static void tillAnother() {
        Act[] acts = {BellRingers::day, x -> x.want(0, 0, 1), x -> x.leave(0), x -> x.come(1), x -> x.gift(0, 1)};
        for (Act act : acts) {
            BellRingers x = Check.of(PAIR);
            x.leave(1);
            x.gift(0, 9);
            x.gift(0, 9);
            x.undo();
            Check.same("49 one to redo", x.about(7), 1);
            act.on(x);
            Check.same("49 none to redo", x.about(7), 0);
            Check.same("17 redo", x.redo(), false);
            Check.same("49 three to undo", x.about(6), 3);
        }
        Act[] refused = {x -> x.want(0, 0, 3), x -> x.want(0, 0, 21), x -> x.want(0, 0, -1), x -> x.leave(1),
            x -> x.come(0), x -> x.gift(0, 0), x -> x.gift(0, 100), x -> x.gift(2, 1), x -> x.cost(60),
            BellRingers::order, x -> x.image(0), x -> x.seen(1, 0, 0, true)};
        for (Act act : refused) {
            BellRingers x = Check.of(PAIR);
            x.leave(1);
            x.gift(0, 9);
            x.undo();
            act.on(x);
            Check.same("49 one to undo still", x.about(6), 1);
            Check.same("17 redo still", x.redo(), true);
            Check.same("6 the gift", x.person(0, 0), 59);
        }
    }

    /** "40 at most are kept, the oldest go" */
    private static void fortyKept() {
        for (int many : new int[] {1, 39, 40, 41, 42, 80, 81, 120}) {
            BellRingers x = Check.of(PAIR + "faces 20;draw 1;");
            List<List<Integer>> states = new ArrayList<>();
            states.add(Whole.state(x));
            for (int i = 0; i < many; i++) {
                act(x, i);
                states.add(Whole.state(x));
            }
            int kept = Math.min(many, 40);
            Check.same("49 kept of " + many, x.about(6), kept);
            for (int i = 1; i <= kept; i++) {
                Check.same("16 undo " + i + " of " + many, x.undo(), true);
                Check.same("16 as it was", Whole.state(x).equals(states.get(many - i)), true);
                Check.same("49 kept in all", x.about(6) + x.about(7), kept);
            }
            Check.same("16 no more of " + many, x.undo(), false);
            Check.same("16 it stays", Whole.state(x).equals(states.get(many - kept)), true);
            for (int i = kept - 1; i >= 0; i--) {
                Check.same("17 redo", x.redo(), true);
                Check.same("17 as it was", Whole.state(x).equals(states.get(many - i)), true);
            }
            Check.same("17 no more of " + many, x.redo(), false);
        }
    }

    private static void act(BellRingers x, int i) {
        switch (i % 5) {
            case 0 -> x.day();
            case 1 -> x.want(0, 0, 1 + i % 19);
            case 2 -> x.leave(1);
            case 3 -> x.gift(1, 1 + i % 9);
            default -> x.come(1);
        }
    }

    /** Behind some that were undone another one takes their place; still 40 at most. */
    private static void fortyAnew() {
        BellRingers x = Check.of("person a has 0;");
        for (int i = 0; i < 40; i++) {
            x.gift(0, 1);
        }
        for (int i = 0; i < 40; i++) {
            x.undo();
        }
        Check.same("6 has nothing", x.person(0, 0), 0);
        x.gift(0, 7);
        Check.same("49 one is kept", x.about(6), 1);
        Check.same("49 none to redo", x.about(7), 0);
        for (int i = 0; i < 40; i++) {
            x.gift(0, 2);
        }
        Check.same("49 forty are kept", x.about(6), 40);
        for (int i = 0; i < 40; i++) {
            x.undo();
        }
        Check.same("16 the oldest is gone", x.undo(), false);
        Check.same("6 what it gave stays", x.person(0, 0), 7);
    }

    // ---- promises 11 to 15

    /** "A DAY: how much is LOST; NONE, doing nothing, behind 999 of them." 0 without bells, or if all are SILENT. */
    private static void days() {
        Check.same("11 day() without bells", Check.of("person a has 9;").day(), 0);
        Check.same("11 day() without people", Check.of("bell a hour 9;").day(), 0);
        Check.same("11 day() of silence", Check.of(ONE + "weighs 0;").day(), 0);
        Check.same("11 day() of the full", Check.of(FULL).day(), 9);
        BellRingers x = Check.of(ONE);
        for (int day = 1; day <= 500; day++) {
            x.day();
        }
        Check.same("49 within 512 calls: day 500", x.about(4), 500);
        for (int day = 501; day <= 998; day++) {
            x.day();
        }
        Check.same("11 the 999th", x.day(), 0);
        Check.same("49 day 999", x.about(4), 999);
        Check.same("11 none behind", x.day(), -1);
        Check.same("49 day 999 still", x.about(4), 999);
        Check.same("16 undo()", x.undo(), true);
        Check.same("11 the 999th again", x.day(), 0);
        Check.same("47 image(0) on day 999", x.image(0), 999);
        Check.same("48 back(0) to day 999", x.back(0), 999);
        Check.same("11 none behind", x.day(), -1);
    }

    /** "He WANTS by a BELL (0 .. 20): LOSS as it was; NONE, doing nothing, if it is so" */
    private static void wants() {
        BellRingers x = Check.of(ONE);
        int before = 3;
        for (int loss : new int[] {20, 0, 1, 19, 20, 3, 0}) {
            Check.same("12 want " + loss, x.want(0, 0, loss), before);
            Check.same("7 loss", x.loss(0, 0), loss);
            Check.same("12 it is so", x.want(0, 0, loss), -1);
            Check.same("6 bits", x.person(0, 3), loss > 0 ? 1 : 0);
            before = loss;
        }
        Check.same("12 want 21", x.want(0, 0, 21), -1);
        Check.same("12 want -1", x.want(0, 0, -1), -1);
        BellRingers y = Check.of(FULL);
        Check.same("12 the last by the last", y.want(5, 4, 1), 20);
        Check.same("12 one behind the last", y.want(6, 4, 1), -1);
        Check.same("12 a bell behind the last", y.want(5, 5, 1), -1);
        // more than 20 may have a loss by wants
        for (int person = 0; person < 6; person++) {
            for (int bell = 0; bell < 5; bell++) {
                y.want(person, bell, 10);
            }
        }
        Check.same("34 all have losses", y.untouched(), 0);
        Check.same("49 loses that are told", y.about(2), 7);
    }

    /** "He leaves (comes): how many are HERE" */
    private static void leaving() {
        BellRingers x = Check.of(FULL);
        for (int person = 0; person < 6; person++) {
            Check.same("14 come(" + person + "), here", x.come(person), -1);
            Check.same("13 leave(" + person + ")", x.leave(person), 5 - person);
            Check.same("13 leave(" + person + ") again", x.leave(person), -1);
            Check.same("6 away", x.person(person, 2), 0);
            Check.same("49 here as bits", x.about(3), 63 & ~((2 << person) - 1));
        }
        for (int person = 5; person >= 0; person--) {
            Check.same("14 come(" + person + ")", x.come(person), 6 - person);
            Check.same("14 come(" + person + ") again", x.come(person), -1);
            Check.same("6 here", x.person(person, 2), 1);
        }
        Check.same("49 all are here", x.about(3), 63);
        Check.same("13 leave(6)", x.leave(6), -1);
        Check.same("14 come(6)", x.come(6), -1);
        Check.same("49 twelve acts", x.about(6), 12);
    }

    /** "He is given more (1 .. 99; 999 at most): what he HAS; NONE, doing nothing, if he HAS 999" */
    private static void gifts() {
        int[][] all = {{0, 1, 1}, {0, 99, 99}, {900, 99, 999}, {901, 99, 999}, {998, 1, 999}, {998, 2, 999},
            {998, 99, 999}, {899, 99, 998}, {999, 1, -1}, {999, 99, -1}, {500, 0, -1}, {500, 100, -1}, {500, -1, -1}};
        for (int[] three : all) {
            BellRingers x = Check.of("person a has " + three[0] + ";");
            Check.same("15 gift of " + three[1] + " to " + three[0], x.gift(0, three[1]), three[2]);
            Check.same("6 has then", x.person(0, 0), three[2] < 0 ? three[0] : three[2]);
            Check.same("49 an act or none", x.about(6), three[2] < 0 ? 0 : 1);
        }
        BellRingers x = Check.of("person a has 990;");
        x.gift(0, 99);
        x.undo();
        Check.same("16 as it was, not by how much was given", x.person(0, 0), 990);
        x.redo();
        Check.same("17 999 again", x.person(0, 0), 999);
    }

    public static void main(String[] args) {
        atFirst();
        wrapping();
        dividing();
        truths();
        words();
        ringers();
        bellByBell();
        nothingBelowZero();
        rangAtMost();
        seeds();
        eachAct();
        tillAnother();
        fortyKept();
        fortyAnew();
        days();
        wants();
        leaving();
        gifts();
        Check.finish();
    }
}
