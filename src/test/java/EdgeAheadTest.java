import java.util.ArrayList;
import java.util.List;

/** The edges of promises 18 to 40 and of "==== 3": a method for each sentence that names one. */
public final class EdgeAheadTest {
    private static final String ONE = "person a has 999;bell x hour 7;loses a x 1;";
    private static final String PAIR = "person a has 50;person b has 50;bell x hour 7;";
    private static final String SIX = "person a has 100;person b has 100;person c has 100;person d has 100;"
        + "person e has 100;person f has 100;bell v hour 0;bell w hour 1;bell x hour 2;bell y hour 3;bell z hour 4;";

    private EdgeAheadTest() {
    }

    // ---- ==== 3

    /** "What lies ahead goes on beyond day 999, too." (More than 512 calls: no fewer bring day 999.) */
    private static void beyondTheLastDay() {
        // the 60th day from day 999 on is the one at whose beginning it is day 1,058
        BellRingers x = at999("person a has 3;bell x hour 0;loses a x 3;weighs day>1057;");
        Check.same("18 will(0, 60, 0)", x.will(0, 60, 0), 0);
        Check.same("18 will(0, 60, 1)", x.will(0, 60, 1), 0);
        Check.same("18 will(0, 59, 0)", x.will(0, 59, 0), -1);
        Check.same("19 purse(0, 60)", x.purse(0, 60), 0);
        Check.same("19 purse(0, 59)", x.purse(0, 59), 3);
        Check.same("20 cost(60)", x.cost(60), 3);
        Check.same("20 cost(59)", x.cost(59), 0);
        Check.same("27 ruin(0)", x.ruin(0), 60);
        Check.same("30 slight(60)", x.slight(60), 0);
        Check.same("30 slight(59)", x.slight(59), 1);
        Check.same("38 hushed(0)", at999(ONE + "weighs day<1058;").hushed(0), 60);
        Check.same("38 never hushed", at999(ONE + "weighs day<1059;").hushed(0), -1);
        BellRingers y = at999(PAIR + "loses a x 5;loses b x 4;weighs loss*(day=999);");
        Check.same("6 person(0, 4)", y.person(0, 4), 1);
        Check.same("9 ringer(0)", y.ringer(0), 0);
        Check.same("18 will(0, 1, 0)", y.will(0, 1, 0), 0);
        Check.same("18 will(0, 2, 0)", y.will(0, 2, 0), -1);
        Check.same("21 order()", y.order(), 5);
        Check.same("23 hush(1)", y.hush(1), 3);
        Check.same("24 spare(1)", y.spare(1), 4);
        Check.same("26 wish(1, 0)", y.wish(1, 0), 6);
        Check.same("28 hides(0)", y.hides(0), 2);
        Check.same("29 staying(0, 1)", y.staying(0, 1), 1);
        Check.lie("29 both go", y, 0, 0);
        Check.same("32 silent()", y.silent(), 0);
        Check.same("36 busiest()", y.busiest(), 0);
        Check.same("37 law(1)", y.law(1), 1);
        Check.same("49 the day", y.about(4), 999);
    }

    private static BellRingers at999(String text) {
        BellRingers x = Check.of(text);
        for (int i = 0; i < 999; i++) {
            x.day();
        }
        return x;
    }

    /** "nobody is FOUND OUT, if not told otherwise": all faces, or none, all is as one. */
    private static void nobodyFoundOut() {
        String text = SIX + "loses a v 3;loses a w 4;loses b v 5;loses b x 6;loses c y 7;loses c z 2;loses d z 9;"
            + "loses e w 5;loses e z 9;loses d v 4;weighs loss*3-rung+has/7;";
        for (int days = 0; days < 3; days++) {
            List<Integer> none = allAhead(text, 0, days);
            Check.same("==== 3 faces 100", allAhead(text, 100, days).equals(none), true);
            Check.same("==== 3 faces 50", allAhead(text, 50, days).equals(none), true);
        }
    }

    /** Days have passed without faces in either: each loss is told anew as it was. */
    private static List<Integer> allAhead(String text, int faces, int days) {
        BellRingers twin = Check.of(text);
        BellRingers x = Check.of(text + "faces " + faces + ";");
        for (int i = 0; i < days; i++) {
            x.day();
            for (int cell = 0; cell < 30; cell++) {
                x.want(cell / 5, cell % 5, twin.loss(cell / 5, cell % 5));
            }
        }
        List<Integer> all = new ArrayList<>();
        for (int n = 1; n <= 60; n++) {
            for (int bell = 0; bell < 5; bell++) {
                all.add(x.will(bell, n, 0));
            }
            all.add(x.cost(n));
            all.add(x.slight(n));
            all.add(x.purse(n % 6, n));
        }
        for (int person = 0; person < 6; person++) {
            all.add(x.person(person, 4));
            all.add(x.ruin(person));
            all.add(x.hides(person));
            all.add(x.staying(person, (person + 1) % 6));
            for (int bell = 0; bell < 5; bell++) {
                all.add(x.wish(person, bell));
            }
        }
        all.addAll(List.of(x.order(), x.hush(1), x.spare(0), x.spare(1), x.silent(), x.busiest(), x.law(5)));
        for (int bell = 0; bell < 5; bell++) {
            all.add(x.hushed(bell));
        }
        return all;
    }

    // ---- promises 18 to 20

    /** "Who rings a BELL on the n-th DAY from now on (1 .. 60; NONE: SILENT)" */
    private static void wills() {
        for (int day : new int[] {0, 1, 58, 59, 60}) {
            BellRingers x = Check.of(ONE + "weighs day=" + day + ";");
            for (int n = 1; n <= 60; n++) {
                Check.same("18 will(0, " + n + ", 0) of day " + day, x.will(0, n, 0), n == day + 1 ? 0 : -1);
                Check.same("18 will(0, " + n + ", 1) of day " + day, x.will(0, n, 1), n == day + 1 ? 0 : -1);
            }
            for (int what = 0; what <= 1; what++) {
                Check.same("18 n 0", x.will(0, 0, what), -2);
                Check.same("18 n 61", x.will(0, 61, what), -2);
                Check.same("18 n -1", x.will(0, -1, what), -2);
            }
            Check.same("18 what -1", x.will(0, 1, -1), -2);
            Check.same("18 what 2", x.will(0, 1, 2), -2);
        }
        BellRingers six = Check.of(SIX + "loses f z 1;");
        Check.same("18 the last bell", six.will(4, 1, 0), 5);
        Check.same("18 a silent bell", six.will(3, 1, 0), -1);
        Check.same("18 a bell behind the last", six.will(5, 1, 0), -2);
        Check.same("18 the bell -1", six.will(-1, 1, 0), -2);
    }

    /** "faces as the SEED tells (what 1), none (0)": as the days then are. */
    private static void willsAsDaysAre() {
        String text = SIX + "loses a v 3;loses b v 9;loses c v 9;loses a w 3;loses d w 8;loses e x 7;loses f x 7;"
            + "loses b x 1;loses c y 2;loses d y 5;loses e z 6;loses f z 20;weighs loss*2+has/9;";
        for (int faces : new int[] {0, 1, 20, 99, 100}) {
            BellRingers x = Check.of(text + "faces " + faces + ";draw 333;");
            BellRingers y = Check.of(text + "faces " + faces + ";draw 333;");
            BellRingers z = Check.of(text);
            for (int n = 1; n <= 12; n++) {
                for (int bell = 0; bell < 5; bell++) {
                    Check.same("18 by faces " + faces, x.will(bell, n, 1), whoRings(y, bell));
                    Check.same("18 by none", x.will(bell, n, 0), whoRings(z, bell));
                }
                y.day();
                z.day();
            }
        }
    }

    private static int whoRings(BellRingers x, int bell) {
        for (int person = 0; person < 6; person++) {
            if ((x.person(person, 4) >> bell & 1) == 1) {
                return person;
            }
        }
        return -1;
    }

    /** "What he HAS behind n DAYS (0 .. 60)"; "What is LOST in n DAYS (0 .. 60), together" */
    private static void pursesAndCosts() {
        for (int has : new int[] {0, 1, 59, 60, 61, 999}) {
            BellRingers x = Check.of("person a has " + has + ";bell x hour 7;loses a x 1;weighs 1;");
            for (int n = 0; n <= 60; n++) {
                Check.same("19 purse(0, " + n + ") of " + has, x.purse(0, n), Math.max(0, has - n));
                Check.same("20 cost(" + n + ") of " + has, x.cost(n), Math.min(has, n));
            }
            for (int n : new int[] {-1, 61}) {
                Check.same("19 n " + n, x.purse(0, n), -1);
                Check.same("20 n " + n, x.cost(n), -1);
            }
            Check.same("19 one behind the last", x.purse(1, 0), -1);
            Check.same("19 one ahead of the first", x.purse(-1, 0), -1);
        }
        BellRingers x = Check.of(SIX.replace("100", "999") + "loses a v 20;loses b w 20;loses c x 20;loses d y 20;"
            + "loses f z 20;weighs 1;");
        Check.same("20 the most in 60 days: all that five have", x.cost(60), 5 * 999);
        Check.same("20 in 49 days", x.cost(49), 5 * 980);
        Check.same("19 the last one's", x.purse(5, 49), 19);
        Check.same("19 the last one's", x.purse(5, 50), 0);
        x.leave(5);
        Check.same("19 of one away", x.purse(5, 60), 999);
        Check.same("20 without him", x.cost(60), 4 * 999);
    }

    // ---- promises 21 to 25

    /** "ORDER: ... least; of like ones the first (by numbers)" */
    private static void orders() {
        int[] all = {0, 1, 2, 3, 4};
        BellRingers none = new BellRingers();
        Check.same("21 no bells", none.order(), 0);
        Check.lie("21 no bells", none);
        BellRingers one = Check.of(ONE);
        Check.same("21 one bell", one.order(), 1);
        Check.lie("21 one bell", one, 0);
        BellRingers silent = Check.of(SIX);
        Check.same("21 all silent", silent.order(), 0);
        Check.lie("21 all silent", silent, all);
        BellRingers nobody = Check.of("bell v hour 0;bell w hour 1;");
        Check.same("21 nobody", nobody.order(), 0);
        Check.lie("21 nobody", nobody, 0, 1);
        BellRingers alike = Check.of(SIX + "loses a v 2;loses a w 2;loses a x 2;loses a y 2;loses a z 2;weighs 1;");
        Check.same("21 all alike", alike.order(), 10);
        Check.lie("21 all alike", alike, all);
        // whoever rings first rings no more, and the last two bells are the only ones that matter: they change places
        BellRingers last = Check.of(PAIR + "bell y hour 8;bell z hour 9;loses a y 9;loses a z 5;loses b y 1;weighs loss*(rung=0);");
        Check.same("21 as told it costs 9", last.cost(1), 9);
        Check.same("21 the other way", last.order(), 6);
        Check.lie("21 the other way", last, 0, 2, 1);
        last.leave(1);
        Check.same("21 without b", last.order(), 5);
        Check.lie("21 without b", last, 0, 2, 1);
        last.leave(0);
        Check.same("21 nobody is here", last.order(), 0);
        Check.lie("21 nobody is here", last, 0, 1, 2);
        // 0 at least: who has nothing more costs nothing more
        BellRingers poor = Check.of("person a has 3;bell x hour 0;bell y hour 1;loses a x 20;loses a y 20;weighs 1;");
        Check.same("21 no more than he has", poor.order(), 3);
    }

    private static void shares(String text, int count, int lost, int... who) {
        BellRingers x = Check.of(text);
        Check.same("22 how many of " + text, x.duties(0), count);
        Check.lie("22 who", x, who);
        Check.same("22 losses together of " + text, x.duties(1), lost);
        Check.lie("22 who, too", x, who);
    }

    /** "DUTIES: ... no two to one, as many BELLS as can be, then the LOSSES together least; of like ones the first" */
    private static void duties() {
        shares("", 0, 0);
        shares("person a has 1;", 0, 0);
        shares("bell v hour 1;bell w hour 1;", 0, 0, -1, -1);
        shares(SIX, 0, 0, -1, -1, -1, -1, -1);
        shares(SIX + "loses f z 20;", 1, 20, -1, -1, -1, -1, 5);
        shares(SIX + "loses a z 1;weighs 0;", 1, 1, -1, -1, -1, -1, 0);
        // one has a loss by all bells: the least, the first of like ones
        shares(SIX + "loses c v 2;loses c w 1;loses c x 2;loses c y 1;loses c z 2;", 1, 1, -1, 2, -1, -1, -1);
        shares(SIX + "loses c v 1;loses c w 1;loses c x 1;loses c y 1;loses c z 1;", 1, 1, 2, -1, -1, -1, -1);
        // all by one bell: the least, the first of like ones
        shares(SIX + "loses a x 3;loses b x 2;loses c x 2;loses d x 2;loses e x 9;loses f x 2;", 1, 2, -1, -1, 1, -1, -1);
        // five of six, a chain in which each bell but the first has two
        shares(SIX + "loses a v 1;loses a w 1;loses b w 20;loses b x 1;loses c x 20;loses c y 1;loses d y 20;"
            + "loses d z 1;loses e z 20;", 5, 81, 0, 1, 2, 3, 4);
        // as the losses are alike the first bell's number is the least that leaves as many bells
        shares(SIX + "loses b v 4;loses a v 4;loses a w 4;loses b w 4;loses f w 4;", 2, 8, 0, 1, -1, -1, -1);
        shares(SIX + "loses b v 4;loses a v 4;loses a w 4;", 2, 8, 1, 0, -1, -1, -1);
        // none is behind all: of like ones the first bell has one
        shares(PAIR + "bell y hour 1;loses b x 7;loses b y 7;", 1, 7, 1, -1);
        shares(PAIR + "bell y hour 1;loses b x 8;loses b y 7;", 1, 7, -1, 1);
        BellRingers x = Check.of(SIX + "loses a v 1;loses b v 2;");
        x.leave(0);
        Check.same("22 of those here", x.duties(1), 2);
        Check.lie("22 of those here", x, 1, -1, -1, -1, -1);
        x.leave(1);
        Check.same("22 none of those here", x.duties(0), 0);
        Check.lie("22 none of those here", x, -1, -1, -1, -1, -1);
        Check.same("22 another what", x.duties(2), -1);
        Check.same("22 another what", x.duties(-1), -1);
    }

    private static void sent(String text, int who) {
        BellRingers x = Check.of(text);
        Check.same("23 how many of " + text, x.hush(0), Integer.bitCount(who));
        Check.same("23 who of " + text, x.hush(1), who);
    }

    /** "HUSH: the fewest of those HERE ...; of like ones the least set as bits" */
    private static void hushes() {
        sent("", 0);
        sent("person a has 1;", 0);
        sent("bell v hour 1;", 0);
        sent(SIX, 0);
        sent(SIX + "loses f z 1;", 32);
        sent(SIX + "loses a v 1;loses b w 1;loses c x 1;loses d y 1;loses e z 1;loses f z 1;", 63);
        sent(SIX + "loses a v 1;loses b w 1;loses c x 1;loses d y 1;loses e z 1;", 31);
        String all = SIX + "loses a v 1;loses b v 1;loses c v 1;loses d v 1;loses e v 1;loses f v 1;weighs ";
        for (int few = 1; few <= 6; few++) {
            // silent with fewer than so many: the first ones are the least set
            sent(all + "here>" + (6 - few) + ";", (1 << few) - 1);
        }
        // of six or five here all may ring, of four only two of them: these must go
        sent(SIX + "loses a v 1;loses b w 1;loses c x 1;loses d y 1;weighs here=6 or here=5 or here=4 and "
            + "(hour=0 or hour=3);", 9);
        sent(SIX + "loses a v 1;loses b w 1;loses c x 1;loses d y 1;weighs here=6 or here=5 or here=4 and "
            + "(hour=1 or hour=2);", 6);
        BellRingers x = Check.of(all + "1;");
        for (int person = 0; person < 6; person++) {
            Check.same("23 who of those here", x.hush(1), 63 & ~((1 << person) - 1));
            Check.same("23 how many of those here", x.hush(0), 6 - person);
            x.leave(person);
        }
        Check.same("23 nobody is here", x.hush(0), 0);
        Check.same("23 nobody is here", x.hush(1), 0);
        // the least set has none of those who are away
        BellRingers y = Check.of(all + "here>4;");
        y.leave(0);
        Check.same("23 the first of those here", y.hush(1), 2);
        Check.same("23 another what", y.hush(2), -1);
        Check.same("23 another what", y.hush(-1), -1);
    }

    private static void spared(String text, int who, int cost) {
        BellRingers x = Check.of(text);
        Check.same("24 who of " + text, x.spare(0), who);
        Check.same("24 the cost of " + text, x.spare(1), cost);
    }

    /** "SPARE: the one HERE by whose being AWAY the COST were least; of like ones the first" */
    private static void spares() {
        spared("", -1, -1);
        spared("bell v hour 1;", -1, -1);
        spared("person a has 1;", 0, 0);
        spared(SIX, 0, 0);
        spared(ONE, 0, 0);
        spared(SIX + "loses f z 1;", 5, 0);
        spared(SIX + "loses a z 5;loses f z 6;", 5, 5);
        spared(SIX + "loses b z 5;loses f z 5;", 0, 5);
        spared(SIX + "loses b z 5;loses e v 5;", 1, 5);
        // as it is nothing is lost; whoever goes, the other one rings: still one is told
        spared(PAIR + "loses a x 3;loses b x 4;weighs here<2;", 1, 3);
        spared(PAIR + "loses a x 4;loses b x 3;weighs here<2;", 0, 3);
        BellRingers x = Check.of(SIX + "loses a v 1;loses b w 2;loses c x 3;loses d y 4;loses e z 5;");
        int[] who = {4, 3, 2, 1, 0, 5};
        int[] cost = {10, 6, 3, 1, 0, 0};
        for (int i = 0; i < who.length; i++) {
            Check.same("24 who of those here", x.spare(0), who[i]);
            Check.same("24 the cost then", x.spare(1), cost[i]);
            Check.same("24 as if he left", x.leave(who[i]), 5 - i);
            Check.same("24 the cost of that day", x.cost(1), cost[i]);
        }
        Check.same("24 nobody is here", x.spare(0), -1);
        Check.same("24 nobody is here", x.spare(1), -1);
        x.come(5);
        Check.same("24 one is here", x.spare(0), 5);
        Check.same("24 another what", x.spare(2), -1);
        Check.same("24 another what", x.spare(-1), -1);
    }

    private static void sung(String text, int who) {
        BellRingers x = Check.of(text);
        Check.same("25 how many of " + text, x.chorus(0), Integer.bitCount(who));
        Check.same("25 who of " + text, x.chorus(1), who);
    }

    /** "CHORUS: the fewest of those HERE ...; of like ones the least set as bits" */
    private static void choruses() {
        sung("", 0);
        sung("person a has 1;", 0);
        sung("bell v hour 1;", 0);
        sung(SIX, 0);
        sung(SIX + "loses f z 1;weighs 0;", 32);
        sung(SIX + "loses f z 1;loses e z 20;", 16);
        sung(SIX + "loses a v 1;loses b w 1;loses c x 1;loses d y 1;loses e z 1;", 31);
        sung(SIX + "loses f v 1;loses b w 1;loses c x 1;loses d y 1;loses e z 1;", 62);
        // one of a and b, one of c and d: 5, 6, 9 or 10; then a and d, or b and c: 9 or 6
        sung(SIX + "loses a v 1;loses d w 1;loses b v 1;loses c w 1;", 5);
        sung(SIX + "loses a v 1;loses a w 1;loses d x 1;loses d y 1;loses b v 1;loses b x 1;loses c w 1;loses c y 1;", 6);
        // one who has all is fewer than two that are a lesser set
        sung(SIX + "loses a v 1;loses b w 1;loses f v 1;loses f w 1;", 32);
        BellRingers x = Check.of(SIX + "loses a v 1;loses a w 1;loses b v 1;loses c w 1;loses d x 1;");
        Check.same("25 two", x.chorus(1), 9);
        x.leave(0);
        Check.same("25 three of those here", x.chorus(1), 14);
        x.leave(1);
        Check.same("25 nobody here has a loss by v", x.chorus(1), 12);
        x.leave(2);
        x.leave(3);
        Check.same("25 nobody here has any", x.chorus(0), 0);
        Check.same("25 nobody here has any", x.chorus(1), 0);
        Check.same("25 another what", x.chorus(2), -1);
        Check.same("25 another what", x.chorus(-1), -1);
    }

    // ---- promises 26 to 31

    /** "WISH: the least LOSS by it (1 .. 20, in place of his)"; "NONE if by none, he is AWAY" */
    private static void wishes() {
        for (int least = 1; least <= 21; least++) {
            BellRingers x = Check.of(PAIR + "weighs loss>" + (least - 1) + ";");
            Check.same("26 by " + least, x.wish(0, 0), least > 20 ? -1 : least);
            Check.same("26 by " + least + ", the other", x.wish(1, 0), least > 20 ? -1 : least);
            BellRingers y = Check.of(PAIR + "loses a x 20;weighs loss>" + (least - 1) + ";");
            Check.same("26 in place of his 20", y.wish(0, 0), least > 20 ? -1 : least);
        }
        for (int other = 1; other <= 20; other++) {
            BellRingers x = Check.of(PAIR + "loses b x " + other + ";");
            Check.same("26 the first of like ones", x.wish(0, 0), other);
            BellRingers y = Check.of(PAIR + "loses a x " + other + ";");
            Check.same("26 more than the first one's", y.wish(1, 0), other == 20 ? -1 : other + 1);
            y.leave(0);
            Check.same("26 without the first one", y.wish(1, 0), 1);
            Check.same("26 of one away", y.wish(0, 0), -1);
        }
        // only small losses ring: the least, not the greatest
        Check.same("26 small ones", Check.of(PAIR + "weighs 3-loss;").wish(0, 0), 1);
        Check.same("26 in between", Check.of(PAIR + "weighs loss>6 and loss<9;").wish(0, 0), 7);
        // on the next day what is rung ahead of it counts
        BellRingers x = Check.of(PAIR + "bell y hour 8;loses a x 5;");
        Check.same("26 behind another bell", x.wish(0, 1), 2);
        Check.same("26 the other one, behind it", x.wish(1, 1), 1);
        BellRingers six = Check.of(SIX);
        Check.same("26 the last by the last", six.wish(5, 4), 1);
        Check.same("26 one behind", six.wish(6, 4), -1);
        Check.same("26 a bell behind", six.wish(5, 5), -1);
        Check.same("26 one ahead", six.wish(-1, 0), -1);
        Check.same("26 a bell ahead", six.wish(0, -1), -1);
    }

    /** "RUIN (0 .. 60); NONE if not in these" */
    private static void ruins() {
        for (int has : new int[] {0, 1, 2, 58, 59, 60, 61, 62, 999}) {
            BellRingers x = Check.of("person a has " + has + ";bell x hour 7;loses a x 1;weighs 1;");
            Check.same("27 of " + has, x.ruin(0), has > 60 ? -1 : has);
            x.leave(0);
            Check.same("27 of one away who has " + has, x.ruin(0), has == 0 ? 0 : -1);
        }
        int[][] all = {{20, 20, 1}, {21, 20, 2}, {19, 20, 1}, {999, 20, 50}, {999, 17, 59}, {999, 16, -1}, {960, 16, 60}, {961, 16, -1}};
        for (int[] three : all) {
            BellRingers x = Check.of("person a has " + three[0] + ";bell x hour 7;loses a x " + three[1] + ";weighs 1;");
            Check.same("27 of " + three[0] + " by " + three[1], x.ruin(0), three[2]);
        }
        BellRingers six = Check.of(SIX + "loses f z 20;weighs 1;");
        Check.same("27 the last one", six.ruin(5), 5);
        Check.same("27 who rings never", six.ruin(4), -1);
        Check.same("27 one behind", six.ruin(6), -1);
        Check.same("27 one ahead", six.ruin(-1), -1);
        Check.same("27 nobody", new BellRingers().ruin(0), -1);
    }

    /** "HIDES": who is HERE, another bell than those he rings as it is; "NONE if he is AWAY, or there is none such" */
    private static void hides() {
        BellRingers one = Check.of(ONE);
        Check.same("28 nobody but him", one.hides(0), 0);
        String all = SIX + "loses a v 9;loses b v 8;loses c v 7;loses d v 7;loses e v 1;loses f v 1;";
        BellRingers x = Check.of(all);
        int[] next = {2, 4, 8, 16, 32, 0};
        for (int person = 0; person < 6; person++) {
            for (int other = 0; other < 6; other++) {
                int due = other < person ? -1 : other > person ? 0 : next[person];
                Check.same("28 hides(" + other + ") with those from " + person + " on", x.hides(other), due);
            }
            x.leave(person);
        }
        Check.same("28 one behind", x.hides(6), -1);
        Check.same("28 one ahead", x.hides(-1), -1);
        // five ring in place of one
        Check.same("28 five", Check.of(SIX + "loses a v 20;loses a w 20;loses a x 20;loses a y 20;loses a z 20;loses b v 1;"
            + "loses c w 1;loses d x 1;loses e y 1;loses f z 1;weighs loss;").hides(0), 62);
        // who rings one bell as it is and another then hides; who rings the same, or fewer, does not
        BellRingers two = Check.of(PAIR + "bell y hour 8;loses a x 9;loses b x 5;loses b y 5;weighs loss*(rung=0);");
        Check.same("28 as it is", two.person(1, 4), 2);
        Check.same("28 another one then", two.hides(0), 2);
        Check.same("28 the same", Check.of(PAIR + "bell y hour 8;loses a x 9;loses b y 5;").hides(0), 0);
        Check.same("28 fewer", Check.of(PAIR + "loses a x 9;loses b x 10;weighs here>1;").hides(0), 0);
    }

    private static void rests(String text, int many, int... first) {
        BellRingers x = Check.of(text);
        x.list();
        Check.same("29 rests of " + text, x.staying(0, 1), many);
        Check.lie("29 the first of " + text, x, first);
        int[] turned = first.length == 2 ? new int[] {first[1], first[0]} : first;
        x.list();
        Check.same("29 rests, asked the other way", x.staying(1, 0), many);
        if (many < 2) {
            Check.lie("29 the one, asked the other way", x, turned);
        }
    }

    /** "who is AWAY loses 3 ...; at RESTS neither would lose less by the other choice"; "of like ones the least numbers" */
    private static void stayings() {
        rests(PAIR, 1, 1, 1);
        rests(PAIR + "loses a x 2;", 1, 1, 1);
        rests(PAIR + "loses a x 3;", 2, 0, 1);
        rests(PAIR + "loses a x 4;", 1, 0, 1);
        rests(PAIR + "loses b x 4;", 1, 1, 0);
        rests(PAIR + "loses a x 2;loses b x 2;", 1, 1, 1);
        rests(PAIR + "loses a x 3;loses b x 3;", 3, 0, 0);
        rests(PAIR + "loses a x 4;loses b x 4;", 1, 0, 0);
        rests(PAIR + "loses a x 4;loses b x 3;", 2, 0, 0);
        rests(PAIR + "loses a x 4;loses b x 2;", 1, 0, 1);
        // he loses no more than he has: with 2 he stays, with 3 it is as well to go
        for (int has : new int[] {0, 1, 2, 3, 4, 5}) {
            String text = "person a has " + has + ";person b has 9;bell x hour 1;loses a x 20;";
            rests(text, has == 3 ? 2 : 1, has >= 3 ? 0 : 1, 1);
        }
        // each loses 3 either way: four rests; then none at all
        rests(PAIR + "bell y hour 8;loses a x 3;loses b y 3;", 4, 0, 0);
        rests(PAIR + "bell y hour 8;loses a x 5;loses b y 5;weighs here>1 and hour=7 or here=1 and hour=8;", 0);
        // another one who is here: all others as they are
        BellRingers x = Check.of("person a has 50;person b has 50;person c has 50;bell x hour 1;loses a x 3;loses b x 3;"
            + "loses c x 9;");
        Check.same("29 the third one rings", x.staying(0, 1), 1);
        Check.lie("29 both stay", x, 1, 1);
        x.leave(2);
        Check.same("29 he is away", x.staying(0, 1), 3);
        Check.lie("29 both go", x, 0, 0);
        Check.same("29 one away", x.staying(0, 2), -1);
        Check.lie("29 nothing", x);
        BellRingers six = Check.of(SIX);
        Check.same("29 the last two", six.staying(5, 4), 1);
        Check.lie("29 they stay", six, 1, 1);
        int[][] wrong = {{6, 0}, {0, 6}, {-1, 0}, {0, -1}, {5, 5}, {6, 6}};
        for (int[] two : wrong) {
            six.list();
            Check.same("29 staying(" + two[0] + ", " + two[1] + ")", six.staying(two[0], two[1]), -1);
            Check.lie("29 nothing", six);
        }
    }

    /** "SLIGHT (n 0 .. 60), as bits": those HERE alone */
    private static void slights() {
        Check.same("30 nobody", new BellRingers().slight(0), 0);
        BellRingers six = Check.of(SIX + "loses b v 2;loses f z 1;");
        Check.same("30 n 0: all", six.slight(0), 63);
        Check.same("30 n 1", six.slight(1), 29);
        Check.same("30 n 60", six.slight(60), 29);
        Check.same("30 n 61", six.slight(61), -1);
        Check.same("30 n -1", six.slight(-1), -1);
        six.leave(0);
        six.leave(5);
        Check.same("30 those here, n 0", six.slight(0), 30);
        Check.same("30 those here, n 1", six.slight(1), 28);
        for (int day : new int[] {0, 1, 58, 59, 60}) {
            BellRingers x = Check.of(ONE + "weighs day=" + day + ";");
            for (int n = 0; n <= 60; n++) {
                Check.same("30 slight(" + n + ") of day " + day, x.slight(n), n > day ? 0 : 1);
            }
        }
    }

    /** "LIST: ... the most first; of like ones the lesser number" */
    private static void lists() {
        BellRingers none = new BellRingers();
        Check.same("31 nobody", none.list(), 0);
        Check.lie("31 nobody", none);
        BellRingers x = Check.of(SIX + "loses a v 1;");
        Check.same("31 six alike", x.list(), 6);
        Check.lie("31 six alike", x, 0, 1, 2, 3, 4, 5);
        // each day one of them rings: f twice, c and e once
        int[] rings = {5, 2, 4, 5};
        for (int person : rings) {
            for (int other = 0; other < 6; other++) {
                x.want(other, 0, other == person ? 20 : 0);
            }
            x.day();
        }
        x.leave(5);
        Check.same("31 those away, too", x.list(), 6);
        Check.lie("31 those away, too", x, 5, 2, 4, 0, 1, 3);
        // from the last to the first
        BellRingers y = Check.of(SIX);
        for (int person = 1; person < 6; person++) {
            y.want(person, 0, 20);
            for (int i = 0; i < person; i++) {
                y.day();
            }
            y.want(person, 0, 0);
        }
        y.list();
        Check.lie("31 turned round", y, 5, 4, 3, 2, 1, 0);
    }

    // ---- promises 32 to 40

    /** "BELLS that are SILENT on the next DAY, as bits"; "NONE without BELLS"; "PEOPLE who have no LOSS above 0" */
    private static void wholes() {
        Check.same("32 no bells", new BellRingers().silent(), 0);
        Check.same("32 nobody", Check.of("bell v hour 1;bell w hour 1;").silent(), 3);
        Check.same("32 all of five", Check.of(SIX).silent(), 31);
        Check.same("32 none of five", Check.of(SIX + "loses a v 1;loses b w 1;loses c x 1;loses d y 1;loses e z 1;").silent(), 0);
        Check.same("33 no bells", Check.of("person a has 1;").dreaded(), -1);
        Check.same("33 no losses", Check.of(SIX).dreaded(), 0);
        Check.same("33 the last", Check.of(SIX + "loses f z 1;").dreaded(), 4);
        Check.same("33 of like ones the first", Check.of(SIX + "loses f z 2;loses a w 1;loses b w 1;").dreaded(), 1);
        Check.same("33 together", Check.of(SIX + "loses f z 20;loses a w 20;loses b w 1;").dreaded(), 1);
        BellRingers d = Check.of(SIX + "loses f z 20;loses a w 1;");
        d.leave(5);
        Check.same("33 of all here", d.dreaded(), 1);
        d.leave(0);
        Check.same("33 none of those here", d.dreaded(), 0);
        Check.same("34 nobody", new BellRingers().untouched(), 0);
        Check.same("34 no bells", Check.of("person a has 1;person b has 1;").untouched(), 3);
        Check.same("34 all of six", Check.of(SIX).untouched(), 63);
        BellRingers u = Check.of(SIX + "loses a z 1;loses f v 1;weighs 0;");
        Check.same("34 four", u.untouched(), 30);
        u.leave(1);
        u.leave(0);
        Check.same("34 those away, too", u.untouched(), 30);
        u.want(0, 4, 0);
        Check.same("34 five", u.untouched(), 31);
    }

    /** "The one who HAS most; of like ones the first"; "who would ring most BELLS; NONE if all are SILENT" */
    private static void mostOf() {
        Check.same("35 nobody", Check.of("bell v hour 1;").richest(), -1);
        Check.same("35 all have 0", Check.of("person a has 0;person b has 0;").richest(), 0);
        Check.same("35 all have 999", Check.of("person a has 999;person b has 999;").richest(), 0);
        Check.same("35 the last", Check.of("person a has 998;person b has 999;").richest(), 1);
        BellRingers r = Check.of(SIX);
        r.gift(5, 1);
        r.leave(5);
        Check.same("35 one away, too", r.richest(), 5);
        Check.same("36 nobody", Check.of("bell v hour 1;").busiest(), -1);
        Check.same("36 no bells", Check.of("person v has 1;").busiest(), -1);
        Check.same("36 all silent", Check.of(SIX).busiest(), -1);
        Check.same("36 the last one", Check.of(SIX + "loses f v 1;").busiest(), 5);
        Check.same("36 of like ones the first", Check.of(SIX + "loses f v 1;loses c z 1;").busiest(), 2);
        Check.same("36 most bells", Check.of(SIX + "loses f v 20;loses f w 20;loses c z 1;").busiest(), 5);
        BellRingers b = Check.of(SIX + "loses f v 20;loses f w 20;loses c z 1;");
        b.leave(5);
        Check.same("36 of those here", b.busiest(), 2);
        b.leave(2);
        Check.same("36 none of those here", b.busiest(), -1);
    }

    /** "if each LOSS above 0 were n (0 .. 20)" */
    private static void laws() {
        for (int n = 0; n <= 20; n++) {
            BellRingers x = Check.of(SIX + "loses a v 1;loses b w 20;loses c x 5;weighs loss=" + n + ";");
            for (int m = 0; m <= 20; m++) {
                Check.same("37 law(" + m + ") of " + n, x.law(m), m == n && n > 0 ? 3 : 0);
            }
        }
        BellRingers x = Check.of(SIX + "loses a v 1;loses b w 20;loses c x 5;loses d y 1;loses e z 1;");
        Check.same("37 law(0)", x.law(0), 0);
        Check.same("37 law(1)", x.law(1), 5);
        Check.same("37 law(20)", x.law(20), 5);
        Check.same("37 law(21)", x.law(21), -1);
        Check.same("37 law(-1)", x.law(-1), -1);
        x.leave(4);
        Check.same("37 of those here", x.law(20), 4);
        Check.same("37 no bells", new BellRingers().law(20), 0);
    }

    /** "How many DAYS (1 .. 60) it takes till a BELL is SILENT first; NONE if it is in none of these" */
    private static void hushed() {
        for (int day = 0; day <= 62; day++) {
            BellRingers x = Check.of(ONE + "weighs day<" + day + ";");
            Check.same("38 rung on " + day + " days", x.hushed(0), day < 60 ? day + 1 : -1);
            BellRingers y = Check.of(ONE + "weighs not day=" + day + ";");
            Check.same("38 silent on day " + day + " alone", y.hushed(0), day < 60 ? day + 1 : -1);
        }
        BellRingers six = Check.of(SIX + "loses f z 3;");
        Check.same("38 the last bell", six.hushed(4), 4);
        Check.same("38 silent at once", six.hushed(3), 1);
        Check.same("38 a bell behind", six.hushed(5), -1);
        Check.same("38 a bell ahead", six.hushed(-1), -1);
        six.leave(5);
        Check.same("38 silent at once", six.hushed(4), 1);
    }

    /** "ODDS (n 0 .. 4) ... in lowest terms (0 of 1)", of each number of faces */
    private static void odds() {
        for (int faces = 0; faces <= 100; faces++) {
            BellRingers x = Check.of("faces " + faces + ";");
            long upper = 1;
            long lower = 1;
            for (int n = 0; n <= 4; n++) {
                long common = divisor(upper, lower);
                Check.same("39 upper part of " + faces + ", " + n, x.odds(n, 0), upper / common);
                Check.same("39 lower part of " + faces + ", " + n, x.odds(n, 1), lower / common);
                upper *= 100 - faces;
                lower *= 100;
            }
            for (int wrong : new int[] {-1, 5}) {
                Check.same("39 n " + wrong, x.odds(wrong, 0), -1);
                Check.same("39 n " + wrong, x.odds(wrong, 1), -1);
            }
            Check.same("39 part -1", x.odds(1, -1), -1);
            Check.same("39 part 2", x.odds(1, 2), -1);
        }
        // whatever the seed is, and whatever was rung
        BellRingers x = Check.of(ONE + "faces 40;draw 999;");
        x.day();
        Check.same("39 behind a day", x.odds(4, 0), 81);
        Check.same("39 behind a day", x.odds(4, 1), 625);
    }

    private static long divisor(long a, long b) {
        return b == 0 ? a : divisor(b, a % b);
    }

    /** "The i-th number of what lies there; -2 if there is none such": what each call leaves there. */
    private static void lying() {
        BellRingers x = Check.of(SIX);
        Check.lie("40 nothing at first", x);
        Check.same("40 lies(-1) of none", x.lies(-1), -2);
        x.list();
        Check.same("40 the last of six", x.lies(5), 5);
        Check.same("40 behind the last of six", x.lies(6), -2);
        Check.same("40 lies(-1)", x.lies(-1), -2);
        x.order();
        Check.same("40 the last of five", x.lies(4), 4);
        Check.same("40 behind the last of five: the sixth is gone", x.lies(5), -2);
        x.staying(0, 1);
        Check.same("40 the last of two", x.lies(1), 1);
        Check.same("40 behind the last of two", x.lies(2), -2);
        x.duties(0);
        Check.same("40 the last of five", x.lies(4), -1);
        x.day();
        x.leave(0);
        x.undo();
        x.image(0);
        x.back(0);
        x.cost(60);
        x.hush(1);
        x.spare(0);
        x.chorus(0);
        Check.same("40 nothing else takes it away", x.about(12), 5);
        Check.tell(x, SIX + "$");
        Check.same("40 nor a fault", x.about(12), 5);
        Check.tell(x, SIX);
        Check.lie("40 but another village", x);
    }

    /** Each call that leaves numbers there, behind each other one: nothing of the one is left in the other. */
    private static void lyingInTurns() {
        String text = SIX + "loses a v 5;loses b v 4;loses c w 3;loses a x 9;loses f z 2;loses e y 1;weighs loss*(rung=0);";
        BellRingers x = Check.of(text);
        for (int first = 0; first < 4; first++) {
            for (int second = 0; second < 4; second++) {
                lay(x, first);
                int answer = lay(x, second);
                BellRingers twin = Check.of(text);
                Check.same("40 the call " + second + " behind " + first, answer, lay(twin, second));
                Check.same("40 how many lie there", x.about(12), twin.about(12));
                for (int i = -1; i <= 6; i++) {
                    Check.same("40 lies(" + i + ") of " + second + " behind " + first, x.lies(i), twin.lies(i));
                }
            }
        }
    }

    private static int lay(BellRingers x, int call) {
        return switch (call) {
            case 0 -> x.order();
            case 1 -> x.duties(1);
            case 2 -> x.list();
            default -> x.staying(0, 1);
        };
    }

    public static void main(String[] args) {
        beyondTheLastDay();
        nobodyFoundOut();
        wills();
        willsAsDaysAre();
        pursesAndCosts();
        orders();
        duties();
        hushes();
        spares();
        choruses();
        wishes();
        ruins();
        hides();
        stayings();
        slights();
        lists();
        wholes();
        mostOf();
        laws();
        hushed();
        odds();
        lying();
        lyingInTurns();
        Check.finish();
    }
}
