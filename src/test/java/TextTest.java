/** Promises 1 to 5: a new object, feed, end, village, fault; and the texts that weighs may tell. */
public final class TextTest {
    private static final String[] WORDS = {"person", "has", "bell", "hour", "loses", "weighs", "faces", "draw", "or",
        "and", "not", "loss", "rung", "here", "day"};
    private static final String TWO = "person a has 7;bell b hour 5;";

    private TextTest() {
    }

    private static void newObject() {
        BellRingers x = new BellRingers();
        for (int what = 0; what <= 13; what++) {
            Check.same("new: about(" + what + ")", x.about(what), 0);
        }
        Check.same("new: about(14)", x.about(14), -1);
        Check.same("new: fault(0)", x.fault(0), 0);
        Check.same("new: fault(1)", x.fault(1), -1);
        Check.same("new: person(0, 0)", x.person(0, 0), -1);
        Check.same("new: hour(0)", x.hour(0), -1);
        Check.same("new: undo()", x.undo(), false);
        Check.same("new: redo()", x.redo(), false);
        Check.same("new: back(0)", x.back(0), -1);
        Check.same("new: image(0)", x.image(0), 0);
        Check.same("new: village()", x.village(), 0);
        Check.same("new: back(0) behind village()", x.back(0), -1);
        Check.same("NONE", BellRingers.NONE, -1);
    }

    private static void feeding() {
        BellRingers x = new BellRingers();
        for (int i = 1; i <= 80; i++) {
            Check.same("feed " + i, x.feed(0, 0, 0, 0, 0), 20 * i);
        }
        Check.same("feed beyond 1,600", x.feed(0, 0, 0, 0, 0), -1);
        Check.same("about(10) then", x.about(10), 1600);
        Check.same("end(1581)", x.end(1581), 1581);
        Check.same("feed to 1,601", x.feed(0, 0, 0, 0, 0), -1);
        Check.same("about(10) then", x.about(10), 1581);
        Check.same("end(1580)", x.end(1580), 1580);
        Check.same("feed to 1,600", x.feed(0, 0, 0, 0, 0), 1600);
    }

    private static void highestFirst() {
        BellRingers x = new BellRingers();
        x.feed(0x20202020, 0x20200AFF, 0, 0, 0);
        x.village();
        Check.same("the byte 255 is no token", x.fault(0), 1);
        Check.same("the byte 255 is the eighth", x.fault(1), 7);
        x.feed(0x0A202020, 0x20202020, 0x20202020, 0x20202020, 0x2020203B);
        x.village();
        Check.same("the ; can't stand there", x.fault(0), 2);
        Check.same("the ; is the last", x.fault(1), 19);
    }

    private static void ending() {
        BellRingers x = new BellRingers();
        Check.same("end(1) of nothing", x.end(1), -1);
        Check.same("end(0) of nothing", x.end(0), 0);
        x.feed(0x20202020, 0x20202020, 0x20202020, 0x20202020, 0x2020203B);
        Check.same("end(-1)", x.end(-1), -1);
        Check.same("end(21)", x.end(21), -1);
        Check.same("end(2147483647)", x.end(Integer.MAX_VALUE), -1);
        Check.same("about(10) then", x.about(10), 20);
        Check.same("end(20)", x.end(20), 20);
        Check.same("end(19)", x.end(19), 19);
        Check.same("about(10) behind it", x.about(10), 19);
        Check.same("blanks alone are a village", x.village(), 0);
    }

    private static void village() {
        BellRingers x = Check.of(TWO + "loses a b 3;weighs (loss)*2;faces 40;draw 8;");
        Check.same("the tape is empty", x.about(10), 0);
        Check.same("people", x.about(0), 1);
        Check.same("bells", x.about(1), 1);
        Check.same("loses", x.about(2), 1);
        Check.same("here", x.about(3), 1);
        Check.same("seed", x.about(5), 8);
        Check.same("units, ( e ) too", x.about(11), 3);
        Check.same("faces", x.about(13), 40);
        x.day();
        x.image(1);
        x.seen(1, 0, 0, true);
        x.later(7);
        x.list();
        Check.same("a fault", Check.tell(x, "person a has 3; person b has 4"), -1);
        Check.same("its kind", x.fault(0), 2);
        Check.same("its place", x.fault(1), 30);
        Check.same("the tape is empty", x.about(10), 0);
        int[] stays = {1, 1, 1, 1, 1, (8 * 137 + 71) % 1000, 1, 0, 1, 7, 0, 3, 1, 40};
        for (int what = 0; what < stays.length; what++) {
            Check.same("behind a fault: about(" + what + ")", x.about(what), stays[what]);
        }
        Check.same("the box is kept behind a fault", x.back(1), 1);
        x.day();
        Check.same("another village", Check.tell(x, "person a has 3; person b has 4;"), 2);
        int[] anew = {2, 0, 0, 3, 0, 0, 0, 0, 0, 7, 0, 0, 0, 0};
        for (int what = 0; what < anew.length; what++) {
            Check.same("another village: about(" + what + ")", x.about(what), anew[what]);
        }
        Check.same("its fault", x.fault(0), 0);
        Check.same("its fault's place", x.fault(1), -1);
        Check.same("fault(2)", x.fault(2), -1);
        Check.same("fault(-1)", x.fault(-1), -1);
        Check.same("the box is empty", x.back(1), -1);
        Check.same("what one has", x.person(0, 0), 3);
        Check.same("how often one rang", x.person(0, 1), 0);
        Check.same("nothing to undo", x.undo(), false);
        Check.same("nothing seen", x.untell(0), false);
    }

    private static void noToken() {
        Check.fault("$", 1, 0);
        Check.fault("person\ta has 5;", 1, 6);
        Check.fault("person A has 5;", 1, 7);
        Check.fault("person abcdefghi has 5;", 1, 7);
        Check.fault("person a has 12345;", 1, 13);
        Check.fault("person a has 12b;", 1, 13);
        Check.fault("person a has 5.;", 1, 14);
        Check.fault("personahas 5;", 1, 0);
        Check.fault("person a" + (char) 0, 1, 8);
        Check.fault("weighs 1!2;", 1, 8);
        Check.fault("weighs 12345;", 1, 7);
        Check.fault("weighs 1or 2;", 1, 7);
        Check.fault("weighs 1 {", 1, 9);
        Check.fault("draw 5\r;", 1, 6);
        Check.fault("loses $", 1, 6);
        // an earlier fault of another sort comes first, a later one does not
        Check.fault("person a has 1000 $", 4, 13);
        Check.fault("person has $", 2, 7);
        Check.fault(TWO + "loses c $", 5, 35);
    }

    private static void misplaced() {
        for (String word : WORDS) {
            Check.fault("person " + word + " has 5;", 2, 7);
            Check.fault("bell " + word + " hour 5;", 2, 5);
            Check.fault(TWO + "loses " + word + " b 5;", 2, 35);
            Check.fault(TWO + "loses a " + word + " 5;", 2, 37);
        }
        String line = "person a has 5;";
        int[] ends = {6, 8, 12, 14};
        for (int end : ends) {
            Check.fault(line.substring(0, end), 2, end);
        }
        Check.fault("person a  ", 2, 10);
        Check.fault("\n\nx", 2, 2);
        Check.fault("has", 2, 0);
        Check.fault("5;", 2, 0);
        Check.fault(";", 2, 0);
        Check.fault(line + ";", 2, 15);
        Check.fault("person 5 has 5;", 2, 7);
        Check.fault("person a hour 5;", 2, 9);
        Check.fault("person a has b;", 2, 13);
        Check.fault("person a has 5 5;", 2, 15);
        Check.fault("bell a has 5;", 2, 7);
        Check.fault("bell a hour;", 2, 11);
        Check.fault(TWO + "loses a b;", 2, 38);
        Check.fault(TWO + "loses a;", 2, 36);
        Check.fault("faces;", 2, 5);
        Check.fault("draw x;", 2, 5);
        Check.fault("faces 5;draw 5;faces 5;", 2, 15);
        Check.fault("draw 5;faces 5;draw 5;", 2, 15);
        Check.fault("weighs 5;faces 5;weighs 5;", 2, 17);
        Check.fault("weighs;", 2, 6);
        Check.fault("weighs", 2, 6);
        Check.fault("weighs 1", 2, 8);
        Check.fault("weighs 1 2;", 2, 9);
        Check.fault("weighs a;", 2, 7);
        Check.fault("weighs ();", 2, 8);
        Check.fault("weighs (1;", 2, 9);
        Check.fault("weighs 1);", 2, 8);
        Check.fault("weighs 1+;", 2, 9);
        Check.fault("weighs -1;", 2, 7);
        Check.fault("weighs 1<2<3;", 2, 10);
        Check.fault("weighs 1=2>3;", 2, 10);
        Check.fault("weighs 1+not 2;", 2, 9);
        Check.fault("weighs 1<not 2;", 2, 9);
        Check.fault("weighs not;", 2, 10);
        Check.fault("weighs 1 or;", 2, 11);
        Check.fault("weighs 1 and or 2;", 2, 13);
        Check.fault("weighs faces;", 2, 7);
    }

    private static void tooMany() {
        StringBuilder people = new StringBuilder();
        for (int i = 0; i < 6; i++) {
            people.append("person ").append((char) ('a' + i)).append(" has 999;");
        }
        StringBuilder bells = new StringBuilder();
        for (int i = 0; i < 5; i++) {
            bells.append("bell ").append((char) ('a' + i)).append(" hour 23;");
        }
        StringBuilder loses = new StringBuilder();
        for (int i = 0; i < 20; i++) {
            loses.append("loses ").append((char) ('a' + i / 5)).append(' ').append((char) ('a' + i % 5)).append(" 20;");
        }
        String all = people + "" + bells + loses;
        Check.fault(all, 0, -1);
        Check.fault(all + "person g has 5;", 2, all.length());
        Check.fault(all + "person a $", 2, all.length());
        Check.fault(all + "bell f hour 5;", 2, all.length());
        Check.fault(all + "loses f a 5;", 2, all.length());
        Check.fault(all + "loses", 2, all.length());
        BellRingers x = Check.of(all);
        Check.same("people", x.about(0), 6);
        Check.same("bells", x.about(1), 5);
        Check.same("loses", x.about(2), 20);
        Check.same("here", x.about(3), 63);
        Check.same("loss(3, 4)", x.loss(3, 4), 20);
        Check.same("loss(4, 0)", x.loss(4, 0), 0);
    }

    private static void twiceWrongUnknown() {
        Check.fault("person a has 5;person b has 5;person a has 5;", 3, 37);
        Check.fault("bell a hour 5;bell a hour 24;", 3, 19);
        Check.fault("person a has 5;bell a hour 5;loses a a 5;", 0, -1);
        Check.fault(TWO + "loses a b 5;loses a b 21;", 3, 49);
        Check.fault(TWO + "loses a b 1;loses a b 1;", 3, 49);
        Check.fault("person a has 999;", 0, -1);
        Check.fault("person a has 1000;", 4, 13);
        Check.fault("person a has 0000;", 0, -1);
        Check.fault("bell a hour 23;", 0, -1);
        Check.fault("bell a hour 24;", 4, 12);
        Check.fault(TWO + "loses a b 0;", 4, 39);
        Check.fault(TWO + "loses a b 1;", 0, -1);
        Check.fault(TWO + "loses a b 20;", 0, -1);
        Check.fault(TWO + "loses a b 21;", 4, 39);
        Check.fault("faces 100;", 0, -1);
        Check.fault("faces 101;", 4, 6);
        Check.fault("draw 999;", 0, -1);
        Check.fault("draw 1000;", 4, 5);
        Check.fault("weighs 9999;", 0, -1);
        Check.fault("loses a b 5;" + TWO, 5, 6);
        Check.fault("person a has 5;loses a b 5;bell b hour 5;", 5, 23);
        Check.fault(TWO + "loses b b 5;", 5, 35);
        Check.fault(TWO + "loses a a 5;", 5, 37);
        Check.fault("person abcdefgh has 5;bell abcdefgi hour 5;loses abcdefgh abcdefgh 5;", 5, 58);
    }

    private static void blanks() {
        Check.fault("", 0, -1);
        Check.fault(" \n ", 0, -1);
        Check.fault("\nperson\na\nhas\n5\n;\n", 0, -1);
        Check.fault("person a has5;bell b hour5;loses a b5;weighs(loss)+has*2 or not hour<3;faces0;draw0;", 0, -1);
        Check.fault("weighs 2or 3;", 1, 7);
    }

    private static String times(String text, int n) {
        return text.repeat(n);
    }

    private static void depthAndUnits() {
        Check.fault("weighs " + times("(", 7) + "1" + times(")", 7) + ";", 0, -1);
        Check.fault("weighs " + times("(", 8) + "1" + times(")", 8) + ";", 2, 14);
        Check.fault("weighs " + times("not ", 7) + "1;", 0, -1);
        Check.fault("weighs " + times("not ", 8) + "1;", 2, 35);
        Check.fault("weighs " + times("not(", 3) + "not 1" + times(")", 3) + ";", 0, -1);
        Check.fault("weighs " + times("not(", 3) + "not(1)" + times(")", 3) + ";", 2, 22);
        Check.fault("weighs " + times("(", 7) + "not 1" + times(")", 7) + ";", 2, 14);
        Check.fault("weighs " + times("(", 6) + "not 1" + times(")", 6) + ";", 0, -1);
        Check.fault("weighs " + times("(", 7) + "1" + times(")", 7) + "+" + times("(", 7) + "1" + times(")", 7) + ";", 0, -1);
        Check.fault("weighs 1" + times("+1", 29) + ";", 0, -1);
        Check.fault("weighs 1" + times("+1", 30) + ";", 2, 67);
        Check.fault("weighs (1)" + times("+(1)", 14) + ";", 0, -1);
        Check.fault("weighs (1)" + times("+(1)", 14) + "+1;", 2, 67);
        Check.fault("weighs (1)" + times("+(1)", 13) + "+1+(1);", 2, 66);
        Check.fault("weighs 1" + times(" and " + times("not ", 7) + "1", 29) + ";", 0, -1);
        Check.same("30 units", Check.of("weighs (1)" + times("+(1)", 14) + ";").about(11), 30);
    }

    private static void comes(String formula, int due) {
        BellRingers x = Check.of(TWO + "loses a b 3;weighs " + formula + ";");
        Check.same(formula, x.weight(0, 0), due);
    }

    private static void formulas() {
        comes("loss*1000+has*100+hour*10+here", 3751);
        comes("rung", 0);
        comes("day", 0);
        comes("2+3*4", 14);
        comes("(2+3)*4", 20);
        comes("10-3-2", 5);
        comes("20/3/2", 3);
        comes("2*7%4", 2);
        comes("(0-7)/2", -3);
        comes("(0-7)%4", -3);
        comes("5/0", 0);
        comes("5%0", 0);
        comes("5/(3-3)+1", 1);
        comes("1<2", 1);
        comes("2<1", 0);
        comes("2>1", 1);
        comes("1>1", 0);
        comes("2=1+1", 1);
        comes("2=3", 0);
        comes("2 and 3", 1);
        comes("2 and 0", 0);
        comes("0 or 5", 1);
        comes("0 or 0", 0);
        comes("1 or 0 and 0", 1);
        comes("(1 or 0) and 0", 0);
        comes("not 0", 1);
        comes("not 5", 0);
        comes("not not 5", 1);
        comes("not 1<0", 1);
        comes("not 0+1", 0);
        comes("not 0 and 0", 0);
        comes("0-1 and 1", 1);
        comes("(1<2)+(2<3)", 2);
        comes("1<2 and 2<3", 1);
        comes("9999*9999*9999", 9999 * 9999 * 9999);
        comes("2048*1024*1024", Integer.MIN_VALUE);
        comes("2048*1024*1024/(0-1)", Integer.MIN_VALUE);
        comes("2048*1024*1024%(0-1)", 0);
        comes("2048*1024*1024-1", Integer.MAX_VALUE);
        comes("1" + times(" and " + times("not ", 7) + "0", 29), 1);
        comes(times("(1+", 7) + "1" + times(")", 7), 8);
    }

    public static void main(String[] args) {
        newObject();
        feeding();
        highestFirst();
        ending();
        village();
        noToken();
        misplaced();
        tooMany();
        twiceWrongUnknown();
        blanks();
        depthAndUnits();
        formulas();
        Check.finish();
    }
}
