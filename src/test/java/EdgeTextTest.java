import java.util.List;

/** The edges of promises 1 to 5 and of the text that "Terms" tells: a method for each sentence that names one. */
public final class EdgeTextTest {
    private static final String TWO = "person a has 7;bell b hour 5;";
    private static final String SIGNS = ";()<>=+-*/%";
    private static final String JOINS = "<>=+-*/%";
    private static final String LINES = "person ann has 12;bell dusk hour 21;person bo has 0;loses ann dusk 7;"
        + "loses bo dusk 20;weighs not(loss-rung)*2<has or 1 and hour%here/day=3;faces 30;draw 9;";

    private EdgeTextTest() {
    }

    private static void good(String text) {
        Check.fault(text, 0, -1);
    }

    private static String times(String text, int n) {
        return text.repeat(Math.max(0, n));
    }

    // ---- promises 1 to 5

    /** "An empty VILLAGE." Every call of the face on it, in the document's order. */
    private static void emptyVillage() {
        emptyOne(new BellRingers(), "1 new");
        BellRingers told = Check.of(LINES);
        told.day();
        Check.same("1 an empty tape is the village", told.village(), 0);
        emptyOne(told, "1 told");
    }

    private static void emptyOne(BellRingers x, String what) {
        for (int i = 0; i <= 13; i++) {
            Check.same(what + ": about(" + i + ")", x.about(i), 0);
        }
        int[] none = {x.fault(1), x.person(0, 0), x.loss(0, 0), x.hour(0), x.want(0, 0, 1), x.leave(0), x.come(0),
            x.gift(0, 1), x.purse(0, 0), x.spare(0), x.spare(1), x.wish(0, 0), x.ruin(0), x.hides(0), x.staying(0, 1),
            x.staying(0, 0), x.dreaded(), x.richest(), x.busiest(), x.hushed(0), x.seen(1, 0, 0, true), x.sure(0, 0),
            x.sure(1, 0), x.ask(1, 0, 0), x.ask(1, 1, 0), x.back(0), x.back(1), x.back(2)};
        for (int i = 0; i < none.length; i++) {
            Check.same(what + ": the call " + i + " that answers NONE", none[i], -1);
        }
        int[] zero = {x.fault(0), x.cost(0), x.cost(1), x.cost(60), x.order(), x.duties(0), x.duties(1), x.hush(0),
            x.hush(1), x.chorus(0), x.chorus(1), x.slight(0), x.slight(60), x.list(), x.silent(), x.untouched(),
            x.law(0), x.law(20), x.fits(0), x.about(12), x.image(0), x.later(0)};
        for (int i = 0; i < zero.length; i++) {
            Check.same(what + ": the call " + i + " that answers 0", zero[i], 0);
        }
        Check.same(what + ": weight(0, 0)", x.weight(0, 0), -1000000000);
        Check.same(what + ": ringer(0)", x.ringer(0), -2);
        Check.same(what + ": will(0, 1, 0)", x.will(0, 1, 0), -2);
        Check.same(what + ": lies(0)", x.lies(0), -2);
        Check.same(what + ": undo()", x.undo(), false);
        Check.same(what + ": redo()", x.redo(), false);
        Check.same(what + ": untell(0)", x.untell(0), false);
        for (int n = 0; n <= 4; n++) {
            Check.same(what + ": odds(" + n + ", 0)", x.odds(n, 0), 1);
            Check.same(what + ": odds(" + n + ", 1)", x.odds(n, 1), 1);
        }
        Check.same(what + ": day()", x.day(), 0);
        Check.same(what + ": the day", x.about(4), 1);
        Check.same(what + ": back(0)", x.back(0), 0);
    }

    /** "how many there are; NONE, and nothing comes, if there would be more than 1,600." */
    private static void feedToTheFull() {
        BellRingers x = new BellRingers();
        for (int i = 1; i <= 80; i++) {
            Check.same("2 feed " + i, x.feed(0x20202020, 0x0A202020, 0x20202020, 0x20202020, 0x2020200A), 20 * i);
        }
        Check.same("2 feed onto 1,600", x.feed('$', '$', '$', '$', '$'), -1);
        Check.same("2 nothing comes", x.about(10), 1600);
        Check.same("2 the blanks are all there is", x.village(), 0);
        for (int size = 1578; size <= 1600; size++) {
            BellRingers y = new BellRingers();
            Check.put(y, times(" ", size));
            boolean room = size <= 1580;
            Check.same("2 feed onto " + size, y.feed('$', '$', '$', '$', '$'), room ? size + 20 : -1);
            Check.same("2 then there are", y.about(10), room ? size + 20 : size);
            y.village();
            Check.same("2 whether they came", y.fault(0), room ? 1 : 0);
        }
    }

    /** "Twenty bytes come behind those on the TAPE, of each number the highest first." */
    private static void highestByteFirst() {
        for (int place = 0; place < 20; place++) {
            int[] numbers = {0x20202020, 0x20202020, 0x20202020, 0x20202020, 0x20202020};
            int shift = 24 - 8 * (place % 4);
            numbers[place / 4] = numbers[place / 4] & ~(255 << shift) | 0xFF << shift;
            BellRingers x = new BellRingers();
            x.feed(numbers[0], numbers[1], numbers[2], numbers[3], numbers[4]);
            x.village();
            Check.same("2 the byte 255 is no token", x.fault(0), 1);
            Check.same("2 the byte 255 is at " + place, x.fault(1), place);
            BellRingers y = new BellRingers();
            Check.put(y, "draw 5;");
            y.feed(numbers[0], numbers[1], numbers[2], numbers[3], numbers[4]);
            y.village();
            Check.same("2 behind seven it is at", y.fault(1), 7 + place);
        }
        BellRingers x = new BellRingers();
        x.feed(Integer.MIN_VALUE, Integer.MAX_VALUE, -1, 0, 1);
        x.village();
        Check.same("2 numbers below 0 come, too", x.fault(0), 1);
    }

    /** "The TAPE has its first n bytes: n; NONE, doing nothing, if it has not so many, or n is below 0." */
    private static void endOfTheTape() {
        BellRingers x = new BellRingers();
        Check.same("3 end(0) of none", x.end(0), 0);
        Check.same("3 end(1) of none", x.end(1), -1);
        Check.same("3 end(-1) of none", x.end(-1), -1);
        Check.put(x, times(" ", 1600));
        Check.same("3 end(1601) of 1,600", x.end(1601), -1);
        Check.same("3 end(1600) of 1,600", x.end(1600), 1600);
        Check.same("3 end(1599) of 1,600", x.end(1599), 1599);
        Check.same("3 end(1600) of 1,599: cut bytes are gone", x.end(1600), -1);
        Check.same("3 end(0) of 1,599", x.end(0), 0);
        Check.same("3 the tape is empty", x.about(10), 0);
        Check.put(x, "draw 77;");
        Check.same("3 end(6)", x.end(6), 6);
        x.feed(0x393B2020, 0x20202020, 0x20202020, 0x20202020, 0x20202020);
        Check.same("3 the first bytes stay, others come behind them", x.village(), 0);
        Check.same("3 draw 79", x.about(5), 79);
    }

    /** "The TAPE (empty then) is the VILLAGE (...): how many PEOPLE": 0 to 6 of them. */
    private static void peopleOfAVillage() {
        BellRingers x = new BellRingers();
        StringBuilder text = new StringBuilder();
        for (int people = 0; people <= 6; people++) {
            Check.same("4 village()", Check.tell(x, text.toString()), people);
            Check.same("4 the tape is empty then", x.about(10), 0);
            Check.same("4 all are here", x.about(3), (1 << people) - 1);
            text.append("person ").append((char) ('a' + people)).append(" has 1;");
        }
        Check.same("4 a seventh", Check.tell(x, text.toString()), -1);
        Check.same("4 six stay", x.about(0), 6);
    }

    /** "all as told, day 0, no ACTS are kept, nothing is SEEN, nothing lies there, BOXES are empty then; the TIME stays" */
    private static void villageAnew() {
        BellRingers x = Check.of(LINES);
        for (int i = 0; i < 3; i++) {
            x.day();
            x.image(i);
        }
        x.leave(0);
        x.gift(1, 9);
        x.want(0, 0, 1);
        x.undo();
        x.later(12);
        x.seen(1, 0, 0, true);
        x.list();
        Check.same("4 the same village again", Check.tell(x, LINES), 2);
        BellRingers twin = Check.of(LINES);
        twin.later(12);
        Check.same("4 all as told", Whole.look(x).equals(Whole.look(twin)), true);
        Check.same("4 all as told, going on", Whole.goOn(x).equals(Whole.goOn(twin)), true);
    }

    /** Nothing of an earlier village's weighs, longer or shorter, told or refused, is left behind another one. */
    private static void weighsAnew() {
        String[] formulas = {"not 1", "5", "1 and not not 7", "8", "2+3*4", "9-1", "not not 1 or not 0", "6", "(((3)))", "2"};
        int[] due = {0, 5, 1, 8, 14, 8, 1, 6, 3, 2};
        int[] units = {1, 1, 2, 1, 3, 2, 2, 1, 4, 1};
        for (int first = 0; first < formulas.length; first++) {
            for (int second = 0; second < formulas.length; second++) {
                BellRingers x = Check.of(TWO + "weighs " + formulas[first] + ";");
                Check.same("8 " + formulas[first], x.weight(0, 0), due[first]);
                Check.tell(x, TWO + "weighs " + formulas[second] + ";");
                Check.same("8 " + formulas[second] + " behind it", x.weight(0, 0), due[second]);
                Check.tell(x, TWO + "weighs " + formulas[first] + ";$");
                Check.same("8 " + formulas[second] + " stays", x.weight(0, 0), due[second]);
                Check.same("49 its units stay", x.about(11), units[second]);
                Check.tell(x, TWO + "loses a b 4;");
                Check.same("8 none is told", x.weight(0, 0), 4);
                Check.same("49 no units", x.about(11), 0);
            }
        }
    }

    /** "Of the latest village() what 0: its FAULT (0), 1: its place (NONE). NONE for another what." */
    private static void faultOfTheLatest() {
        BellRingers x = new BellRingers();
        Check.same("5 fault(0) ahead of all", x.fault(0), 0);
        Check.same("5 fault(1) ahead of all", x.fault(1), -1);
        Check.tell(x, "  $");
        Check.same("5 fault(0)", x.fault(0), 1);
        Check.same("5 fault(1)", x.fault(1), 2);
        Check.tell(x, "person");
        Check.same("5 fault(0) of the next", x.fault(0), 2);
        Check.same("5 fault(1) of the next", x.fault(1), 6);
        Check.put(x, "$");
        Check.same("5 the tape tells nothing yet", x.fault(1), 6);
        x.end(0);
        x.village();
        Check.same("5 fault(0) of a good one", x.fault(0), 0);
        Check.same("5 fault(1) of a good one", x.fault(1), -1);
        Check.same("5 fault(2)", x.fault(2), -1);
        Check.same("5 fault(-1)", x.fault(-1), -1);
    }

    // ---- the text

    /** "a text of at most 1,600 bytes (empty at first)" */
    private static void lengths() {
        good("");
        good(times(" ", 1600));
        good(times("\n", 1599) + " ");
        String head = TWO + "loses a b 3;";
        String full = head + times(" ", 1600 - head.length() - 7) + "draw 8;";
        good(full);
        Check.same("the last byte counts", Check.of(full).about(5), 8);
        Check.fault(full.substring(0, 1599), 2, 1599);
        Check.fault(full.substring(0, 1599) + " ", 2, 1600);
        Check.fault(full.substring(0, 1599) + "$", 1, 1599);
        Check.fault(times(" ", 1599) + ";", 2, 1599);
        Check.fault(times("a", 1600), 1, 0);
        Check.fault(times("1", 1600), 1, 0);
        Check.fault("weighs " + times("(", 1593), 2, 14);
        Check.fault("weighs " + times("not ", 398), 2, 35);
    }

    private static boolean isLetter(int b) {
        return b >= 'a' && b <= 'z';
    }

    private static boolean isDigit(int b) {
        return b >= '0' && b <= '9';
    }

    /** "TOKENS: words (a .. z), N, signs; blanks (32, 10) part them": every byte, where a line, a sign or an end is due. */
    private static void everyByte() {
        for (int b = 0; b < 256; b++) {
            char c = (char) b;
            boolean blank = b == 32 || b == 10;
            boolean sign = b > 0 && SIGNS.indexOf(c) >= 0;
            boolean token = sign || isLetter(b) || isDigit(b);
            int kind = blank ? 0 : token ? 2 : 1;
            Check.fault("" + c, kind, blank ? -1 : 0);
            Check.fault("draw 5;" + c, kind, blank ? -1 : 7);
            int inName = blank ? 2 : isLetter(b) ? 2 : token ? 2 : 1;
            Check.fault("person a" + c, inName, blank || isLetter(b) ? 9 : 8);
            if (c == ';') {
                good("weighs 1" + c);
                good("weighs 1 " + c);
            } else {
                boolean more = blank || b > 0 && JOINS.indexOf(c) >= 0;
                Check.fault("weighs 1 " + c, more || token ? 2 : 1, more ? 10 : 9);
                boolean longer = more || isDigit(b);
                boolean wrong = isLetter(b) || !longer && !token;
                Check.fault("weighs 1" + c, wrong ? 1 : 2, longer ? 9 : isLetter(b) ? 7 : 8);
            }
        }
    }

    /** "words (a .. z, 8 at most)" */
    private static void wordLengths() {
        String eight = "azazazaz";
        String nine = "azazazaza";
        good("person " + eight + " has 5;");
        good("bell " + eight + " hour 5;");
        good("person " + eight + " has 5;bell " + eight + " hour 5;loses " + eight + " " + eight + " 5;");
        Check.fault("person " + nine + " has 5;", 1, 7);
        Check.fault("bell " + nine + " hour 5;", 1, 5);
        Check.fault(TWO + "loses " + eight, 5, 35);
        Check.fault(TWO + "loses " + nine, 1, 35);
        Check.fault(TWO + "loses a " + eight, 5, 37);
        Check.fault(TWO + "loses a " + nine, 1, 37);
        Check.fault(eight, 2, 0);
        Check.fault(nine, 1, 0);
        Check.fault("person a " + eight, 2, 9);
        Check.fault("person a " + nine, 1, 9);
        Check.fault("weighs " + eight, 2, 7);
        Check.fault("weighs " + nine, 1, 7);
        Check.fault("weighs 1 " + eight, 2, 9);
        Check.fault("weighs 1 " + nine, 1, 9);
        Check.fault("draw " + nine, 1, 5);
        for (int n = 1; n <= 8; n++) {
            good("person " + times("z", n) + " has 5;");
        }
        for (int n = 9; n <= 40; n++) {
            Check.fault("person " + times("z", n) + " has 5;", 1, 7);
        }
    }

    /** "each is as long as can be": words are parted by blanks alone, or by what is no letter. */
    private static void longestTokens() {
        Check.fault("persona has 5;", 2, 0);
        Check.fault("personahas5;", 1, 0);
        Check.fault("person ahas 5;", 2, 12);
        Check.fault("person has has 5;", 2, 7);
        good("person hashas has 5;");
        Check.fault("weighs lossor 1;", 2, 7);
        Check.fault("weighs not1;", 0, -1);
        Check.fault("weighs notloss;", 2, 7);
        good("person a has5;bell b hour6;loses a b7;weighs(1)or(2)and not(3);faces8;draw9;");
        good("weighs loss+has*rung-hour/here%day;");
        good("weighs not\nnot\n1\n;\n");
        good("person\na\nhas\n5\n;");
        Check.fault("draw 1 2;", 2, 7);
        Check.fault("draw 1\n2;", 2, 7);
    }

    /** "N (1 to 4 digits)" */
    private static void numberLengths() {
        for (String zeros : List.of("", "0", "00", "000")) {
            good("draw " + zeros + "7;");
            Check.same("draw " + zeros + "7", Check.of("draw " + zeros + "7;").about(5), 7);
        }
        Check.fault("draw 00007;", 1, 5);
        Check.fault("draw 00000;", 1, 5);
        Check.fault("draw 99999;", 1, 5);
        Check.fault("draw 9999;", 4, 5);
        Check.fault("draw;", 2, 4);
        good("weighs 9999;");
        good("weighs 0000;");
        Check.fault("weighs 10000;", 1, 7);
        Check.fault("weighs 00000;", 1, 7);
        Check.fault("person a has 10000;", 1, 13);
        Check.fault("bell a hour 00023;", 1, 12);
        Check.fault(TWO + "loses a b 00001;", 1, 39);
        Check.fault("faces 00001;", 1, 6);
        Check.fault("12345", 1, 0);
        Check.fault("1234", 2, 0);
        // 2 to the 32nd and 5 more: no cut to an int makes it a number
        Check.fault("draw 4294967301;", 1, 5);
    }

    /** "no letter directly behind an N" */
    private static void lettersBehindNumbers() {
        for (String letter : List.of("a", "m", "z")) {
            Check.fault("draw 5" + letter + ";", 1, 5);
            Check.fault("draw 5 " + letter + ";", 2, 7);
            Check.fault("draw 5\n" + letter + ";", 2, 7);
            Check.fault("draw 0005" + letter + ";", 1, 5);
            Check.fault("5" + letter, 1, 0);
        }
        Check.fault("weighs 1or 2;", 1, 7);
        Check.fault("weighs 1 or2;", 0, -1);
        Check.fault("weighs 1+2and 3;", 1, 9);
        Check.fault("weighs (1)or 2;", 0, -1);
        Check.fault("weighs 1+2 and3;", 0, -1);
        Check.fault("draw 5A;", 1, 6);
        Check.fault("draw 5{;", 1, 6);
        Check.fault("draw 5`;", 1, 6);
    }

    /** "Words that stand for themselves here are no NAMES." */
    private static void namesAndWords() {
        String[] words = {"person", "has", "bell", "hour", "loses", "weighs", "faces", "draw", "or", "and", "not",
            "loss", "rung", "here", "day"};
        for (String word : words) {
            Check.fault("person " + word + " has 1;", 2, 7);
            Check.fault("bell " + word + " hour 1;", 2, 5);
            Check.fault(TWO + "loses " + word + " b 1;", 2, 35);
            Check.fault(TWO + "loses a " + word + " 1;", 2, 37);
            // one letter more, one less, one changed: a name
            String more = word + "s";
            String less = word.substring(1);
            String other = word.substring(0, word.length() - 1) + "q";
            for (String name : List.of(more, less, other)) {
                good("person " + name + " has 1;bell " + name + " hour 1;loses " + name + " " + name + " 1;");
            }
        }
        for (String name : List.of("e", "n", "unit", "sum", "term", "one", "both", "line", "village", "lose", "silent")) {
            good("person " + name + " has 1;bell " + name + " hour 1;loses " + name + " " + name + " 1;");
        }
    }

    /** Names are alike only letter by letter, to the eighth; a shorter one is another. */
    private static void alikeNames() {
        String[] names = {"abcdefgh", "bbcdefgh", "abcdefgg", "abcdefg", "bcdefgh", "abcdefha"};
        StringBuilder text = new StringBuilder();
        for (String name : names) {
            text.append("person ").append(name).append(" has 1;");
        }
        for (int i = 0; i < 5; i++) {
            text.append("bell ").append("a".repeat(i + 1)).append(" hour ").append(i).append(';');
        }
        for (int i = 0; i < 6; i++) {
            text.append("loses ").append(names[i]).append(' ').append("a".repeat(1 + i % 5)).append(' ');
            text.append(i + 1).append(';');
        }
        BellRingers x = Check.of(text.toString());
        for (int person = 0; person < 6; person++) {
            for (int bell = 0; bell < 5; bell++) {
                Check.same("the loss of " + names[person], x.loss(person, bell), person % 5 == bell ? person + 1 : 0);
            }
        }
        for (String name : names) {
            String ahead = "person q has 1;person " + name + " has 1;";
            Check.fault(ahead + "person " + name + " has 1;", 3, ahead.length() + 7);
        }
    }

    private static String people(int many) {
        StringBuilder text = new StringBuilder();
        for (int i = 0; i < many; i++) {
            text.append("person ").append((char) ('a' + i)).append(" has 9;");
        }
        return text.toString();
    }

    private static String bells(int many) {
        StringBuilder text = new StringBuilder();
        for (int i = 0; i < many; i++) {
            text.append("bell ").append((char) ('a' + i)).append(" hour 9;");
        }
        return text.toString();
    }

    private static String loses(int many) {
        StringBuilder text = new StringBuilder();
        for (int i = 0; i < many; i++) {
            text.append("loses ").append((char) ('a' + i % 6)).append(' ').append((char) ('a' + i / 6)).append(" 9;");
        }
        return text.toString();
    }

    /** "At most 6 PEOPLE, 5 BELLS, 20 loses"; "one of a sort too many: at the line's first word" */
    private static void counts() {
        for (int many = 0; many <= 8; many++) {
            Check.fault(people(many), many > 6 ? 2 : 0, many > 6 ? people(6).length() : -1);
            Check.fault(bells(many), many > 5 ? 2 : 0, many > 5 ? bells(5).length() : -1);
        }
        String head = people(6) + bells(5);
        for (int many = 0; many <= 22; many++) {
            Check.fault(head + loses(many), many > 20 ? 2 : 0, many > 20 ? (head + loses(20)).length() : -1);
        }
        String full = head + loses(20);
        int end = full.length();
        // whatever follows the first word
        for (String word : List.of("person", "bell", "loses")) {
            for (String rest : List.of("", " ", " $", "$", ";", " a", " a a", " q has 1000;", " a a 99;", " q hour 24;")) {
                Check.fault(full + word + rest, 2, end);
            }
        }
        Check.fault(full + "\n  person", 2, end + 3);
        good(full + "weighs 1;faces 1;draw 1;");
        BellRingers x = Check.of(full);
        Check.same("six people", x.about(0), 6);
        Check.same("five bells", x.about(1), 5);
        Check.same("twenty loses", x.about(2), 20);
        Check.same("the last person", x.person(5, 0), 9);
        Check.same("none behind", x.person(6, 0), -1);
        Check.same("the last bell", x.hour(4), 9);
        Check.same("none behind", x.hour(5), -1);
    }

    /** "numbered as told, each sort by itself" */
    private static void numbering() {
        BellRingers x = Check.of("bell z hour 3;person m has 5;bell y hour 4;person l has 6;loses l z 7;bell x hour 5;"
            + "person k has 8;loses m x 2;");
        int[] has = {5, 6, 8};
        int[] hours = {3, 4, 5};
        for (int i = 0; i < 3; i++) {
            Check.same("has, as told", x.person(i, 0), has[i]);
            Check.same("hour, as told", x.hour(i), hours[i]);
        }
        Check.same("l by z", x.loss(1, 0), 7);
        Check.same("m by x", x.loss(0, 2), 2);
        Check.same("k by nothing", x.person(2, 3), 0);
    }

    /** The least and the greatest number are taken, the next ones are FAULT 4 at their place. */
    private static void range(String head, int least, int most) {
        for (int n : new int[] {0, least - 1, least, least + 1, most - 1, most, most + 1, 9999}) {
            if (n >= 0) {
                boolean can = n >= least && n <= most;
                Check.fault(head + n + ";", can ? 0 : 4, can ? -1 : head.length());
            }
        }
    }

    /** "has 0 .. 999, hour 0 .. 23, loses 1 .. 20, faces 0 .. 100, draw 0 .. 999"; "4 a number that can't be" */
    private static void ranges() {
        range("person a has ", 0, 999);
        range("bell b hour ", 0, 23);
        range(TWO + "loses a b ", 1, 20);
        range("faces ", 0, 100);
        range("draw ", 0, 999);
        for (int n : new int[] {0, 1, 998, 999}) {
            Check.same("has " + n, Check.of("person a has " + n + ";").person(0, 0), n);
            Check.same("draw " + n, Check.of("draw " + n + ";").about(5), n);
        }
        for (int n : new int[] {0, 1, 22, 23}) {
            Check.same("hour " + n, Check.of("bell a hour " + n + ";").hour(0), n);
        }
        for (int n : new int[] {1, 2, 19, 20}) {
            Check.same("loses " + n, Check.of(TWO + "loses a b " + n + ";").loss(0, 0), n);
        }
        for (int n : new int[] {0, 1, 99, 100}) {
            Check.same("faces " + n, Check.of("faces " + n + ";").about(13), n);
        }
        for (int n : new int[] {0, 1, 9998, 9999}) {
            good("weighs " + n + ";");
            Check.same("weighs " + n, Check.of(TWO + "weighs " + n + ";").weight(0, 0), n);
        }
        Check.same("faces, if not told", Check.of(TWO).about(13), 0);
        Check.same("draw, if not told", Check.of(TWO).about(5), 0);
    }

    /** "weighs, faces, draw once each"; "a second time: at the line's first word" */
    private static void once() {
        String[] lines = {"weighs 1;", "faces 1;", "draw 1;"};
        for (String line : lines) {
            good(line);
            String word = line.substring(0, line.length() - 3);
            for (String between : List.of("", " \n", TWO)) {
                for (String rest : List.of("", " 1;", " $", "$", ";", " 9999;", " a;")) {
                    String head = line + between;
                    Check.fault(head + word + rest, 2, head.length());
                }
            }
            for (String other : lines) {
                if (!other.equals(line)) {
                    good(line + other);
                    Check.fault(line + other + line, 2, (line + other).length());
                }
            }
        }
        Check.fault("weighs 0;weighs 0;", 2, 9);
        Check.fault("faces 0;faces 0;", 2, 8);
        Check.fault("draw 0;draw 0;", 2, 7);
    }

    /** "30 in one e": 30 units are taken; the next is FAULT 2 at its first TOKEN. */
    private static void units() {
        for (int many = 28; many <= 33; many++) {
            String text = "weighs 1" + times("+1", many - 1) + ";";
            Check.fault(text, many > 30 ? 2 : 0, many > 30 ? 67 : -1);
        }
        for (String join : List.of("-", "*", "/", "%", " and ", " or ")) {
            String thirty = "weighs 1" + times(join + "1", 29);
            Check.same("units of " + thirty, Check.of(thirty + ";").about(11), 30);
            Check.fault(thirty + join + "1;", 2, (thirty + join).length());
        }
        for (String sign : List.of("<", ">", "=")) {
            String pairs = "weighs 1" + sign + "1" + times(" or 1" + sign + "1", 14);
            Check.same("units of " + pairs, Check.of(pairs + ";").about(11), 30);
            Check.fault(pairs + " or 1;", 2, pairs.length() + 4);
        }
        // a ( e ) is a unit, too, and begins at its (
        good("weighs 1" + times("+1", 27) + "+(1);");
        Check.fault("weighs 1" + times("+1", 28) + "+(1);", 2, 66);
        Check.fault("weighs 1" + times("+1", 29) + "+(1);", 2, 67);
        Check.fault("weighs 1" + times("+1", 29) + "+not 1;", 2, 67);
        // behind not it is the unit that is too many, not the not
        Check.fault("weighs 1" + times("+1", 29) + " or not 1;", 2, 74);
        Check.fault("weighs 1" + times("+1", 29) + " or not loss;", 2, 74);
        Check.fault("weighs 1" + times("+1", 29) + " or not(1);", 2, 73);
        Check.fault("weighs ((1" + times("+1", 28) + "));", 2, 7 + 2 + 56);
        good("weighs ((1" + times("+1", 27) + "));");
        for (int many = 1; many <= 30; many++) {
            Check.same(many + " units", Check.of("weighs 1" + times("-loss", many - 1) + ";").about(11), many);
        }
        Check.same("no weighs, no units", Check.of(TWO).about(11), 0);
    }

    private static String around(String ahead, int n, String inner, String behind) {
        return "weighs " + times(ahead, n) + inner + times(behind, n) + ";";
    }

    /** "(a unit ( e ), or a one behind not, within 6 others at most)"; "what is within 7 others: at its first TOKEN, or the not" */
    private static void within() {
        for (int n = 0; n <= 10; n++) {
            Check.fault(around("(", n, "1", ")"), n > 7 ? 2 : 0, n > 7 ? 14 : -1);
            Check.fault(around("not ", n, "1", ""), n > 7 ? 2 : 0, n > 7 ? 35 : -1);
            Check.fault(around("not(", n, "1", ")"), n > 3 ? 2 : 0, n > 3 ? 7 + 3 * 4 + 3 : -1);
            Check.fault(around("(not ", n, "1", ")"), n > 3 ? 2 : 0, n > 3 ? 7 + 3 * 5 + 1 : -1);
            Check.fault(around("(", n, "not 1", ")"), n > 6 ? 2 : 0, n > 6 ? 14 : -1);
            Check.fault(around("not ", n, "(1)", ""), n > 6 ? 2 : 0, n > 6 ? 35 : -1);
        }
        // what stands beside is not around
        good("weighs (((((((1)))))))+(((((((1)))))));");
        good("weighs " + times("not ", 7) + "1 and " + times("not ", 7) + "1 or " + times("not ", 7) + "1;");
        good("weighs ((1)+(1)+((1)))*(((((((1)))))));");
        good("weighs not (1) and (not 1) or not not (((1)));");
        // the first of both: a unit within 7 others that is the 31st
        Check.fault("weighs 1" + times("+1", 22) + "+" + times("(", 8), 2, 7 + 46 + 7);
        Check.fault("weighs 1" + times("+1", 23) + "+" + times("(", 8), 2, 7 + 48 + 6);
    }

    /** "the end: the text's length": each line cut short behind each of its tokens, without and with blanks. */
    private static void cutShort() {
        String[] lines = {"person,b,has,5,;", "bell,c,hour,5,;", "loses,a,b,5,;", "weighs,1,;", "weighs,(,1,),;",
            "weighs,not,1,;", "weighs,1,+,2,;", "weighs,1,or,2,;", "weighs,1,<,2,;", "faces,5,;", "draw,5,;"};
        for (String line : lines) {
            StringBuilder text = new StringBuilder(TWO);
            String[] tokens = line.split(",");
            for (int i = 0; i < tokens.length; i++) {
                text.append(tokens[i]);
                boolean whole = i == tokens.length - 1;
                for (int blanks = 0; blanks <= 2; blanks++) {
                    int length = text.length() + blanks;
                    Check.fault(text + times("\n", blanks), whole ? 0 : 2, whole ? -1 : length);
                }
                text.append(' ');
            }
        }
    }

    /** "FAULTS, the first by its place, at one place the least" */
    private static void firstFault() {
        Check.fault("person $ has 1000;", 1, 7);
        Check.fault("person a has 1000;$", 4, 13);
        Check.fault("person a has 12345", 1, 13);
        Check.fault("$ person", 1, 0);
        Check.fault("x $", 2, 0);
        Check.fault("person a has 5;person a has 1000;", 3, 22);
        Check.fault("person a has 1000;person a has 5;", 4, 13);
        Check.fault(TWO + "loses q q 99;", 5, 35);
        Check.fault(TWO + "loses a q 99;", 5, 37);
        Check.fault(TWO + "loses a b 99;", 4, 39);
        Check.fault(TWO + "loses a b 9 9;", 2, 41);
        Check.fault(TWO + "loses a b 3;loses a b $", 3, 49);
        Check.fault(TWO + "loses a b 3;loses a q 3", 5, 49);
        Check.fault(TWO + "loses a b 3;loses q b 3", 5, 47);
        Check.fault("weighs 1" + times("+1", 29) + "+$", 1, 67);
        Check.fault("weighs 1" + times("+1", 29) + "+12345", 1, 67);
        Check.fault("weighs 1" + times("+1", 29) + "+aaaaaaaaa", 1, 67);
        Check.fault("weighs " + times("(", 7) + "$", 1, 14);
        Check.fault("weighs " + times("not ", 7) + "$", 1, 35);
        Check.fault("faces 101;faces", 4, 6);
        Check.fault("draw 1;draw$", 2, 7);
        Check.fault("draw 1;drawdrawd", 1, 7);
    }

    /** "3 a NAME told already (of its sort), two told already (at the second NAME)" */
    private static void toldAlready() {
        good("person a has 1;bell a hour 1;");
        good("bell a hour 1;person a has 1;");
        for (int i = 0; i < 5; i++) {
            String name = "" + (char) ('a' + i);
            Check.fault(people(5) + "person " + name + " has 1;", 3, people(5).length() + 7);
        }
        for (int i = 0; i < 4; i++) {
            String name = "" + (char) ('a' + i);
            Check.fault(bells(4) + "bell " + name + " hour 1;", 3, bells(4).length() + 5);
        }
        String head = people(2) + bells(2);
        String[] pairs = {"a a", "a b", "b a", "b b"};
        StringBuilder text = new StringBuilder(head);
        for (String pair : pairs) {
            text.append("loses ").append(pair).append(" 1;");
        }
        good(text.toString());
        for (String pair : pairs) {
            Check.fault(text + "loses " + pair + " 1;", 3, text.length() + 8);
            Check.fault(text + "loses " + pair, 3, text.length() + 8);
            Check.fault(text + "loses " + pair.replace(" ", "\n\n") + ";", 3, text.length() + 9);
        }
    }

    /** "5 a NAME that none of the PEOPLE, no BELL has"; "(one of the PEOPLE, a BELL, both told ahead)" */
    private static void unknown() {
        Check.fault("loses a b 1;", 5, 6);
        Check.fault("person a has 1;loses a b 1;", 5, 23);
        Check.fault("bell b hour 1;loses a b 1;", 5, 20);
        Check.fault("person a has 1;loses a a 1;", 5, 23);
        Check.fault("bell b hour 1;loses b b 1;", 5, 20);
        Check.fault("loses a b 1;person a has 1;bell b hour 1;", 5, 6);
        Check.fault("person a has 1;loses a b 1;bell b hour 1;", 5, 23);
        Check.fault("bell b hour 1;loses a b 1;person a has 1;", 5, 20);
        Check.fault(TWO + "loses b a 1;", 5, 35);
        Check.fault(people(6) + bells(5) + "loses g a 1;", 5, (people(6) + bells(5)).length() + 6);
        Check.fault(people(6) + bells(5) + "loses f f 1;", 5, (people(6) + bells(5)).length() + 8);
        good(people(6) + bells(5) + "loses f e 1;");
        // what an earlier village had, or began to tell, is forgotten
        BellRingers x = Check.of(TWO);
        Check.tell(x, "loses a b 1;");
        Check.same("an earlier village's name", x.fault(0), 5);
        Check.tell(x, "person c has 1;bell d hour 1;loses c d 1;$");
        Check.tell(x, "person e has 1;bell f hour 1;loses c d 1;");
        Check.same("a refused village's name", x.fault(0), 5);
        Check.same("its place", x.fault(1), 35);
        Check.tell(x, "person c has 1;bell d hour 1;loses c d 1;weighs 1;faces 1;draw 1;");
        Check.same("told anew is not told twice", x.fault(0), 0);
    }

    /** Each beginning of a text with all sorts of lines, and each change of one byte, as the second telling finds it. */
    private static void everyPlace() {
        for (int end = 0; end <= LINES.length(); end++) {
            asOracle(LINES.substring(0, end));
            asOracle(LINES.substring(0, end) + "\n");
            asOracle(LINES.substring(end));
        }
        String changes = " \nazsrt059;()<=-*%$A~" + (char) 0 + (char) 255;
        for (int at = 0; at < LINES.length(); at++) {
            for (int i = 0; i < changes.length(); i++) {
                asOracle(LINES.substring(0, at) + changes.charAt(i) + LINES.substring(at + 1));
                asOracle(LINES.substring(0, at) + changes.charAt(i) + LINES.substring(at));
            }
            asOracle(LINES.substring(0, at) + LINES.substring(at + 1));
        }
    }

    private static void asOracle(String text) {
        int kind = 0;
        int place = -1;
        try {
            new Oracle.Parser(text).all();
        } catch (Oracle.Fault fault) {
            kind = fault.kind;
            place = fault.place;
        }
        Check.fault(text, kind, place);
    }

    public static void main(String[] args) {
        emptyVillage();
        feedToTheFull();
        highestByteFirst();
        endOfTheTape();
        peopleOfAVillage();
        villageAnew();
        weighsAnew();
        faultOfTheLatest();
        lengths();
        everyByte();
        wordLengths();
        longestTokens();
        numberLengths();
        lettersBehindNumbers();
        namesAndWords();
        alikeNames();
        counts();
        numbering();
        ranges();
        once();
        units();
        within();
        cutShort();
        firstFault();
        toldAlready();
        unknown();
        everyPlace();
        Check.finish();
    }
}
