/** What the tests share: villages told from texts, and answers that are compared with those that are due. */
final class Check {
    private static int right = 0;
    private static int wrong = 0;

    private Check() {
    }

    static void same(String what, long got, long due) {
        if (got == due) {
            right++;
        } else {
            wrong++;
            System.out.println(what + " answered " + got + ", due is " + due);
        }
    }

    static void same(String what, boolean got, boolean due) {
        same(what, got ? 1 : 0, due ? 1 : 0);
    }

    /** Puts the text on the tape and ends it there. */
    static void put(BellRingers x, String text) {
        for (int i = 0; i < text.length(); i += 20) {
            x.feed(four(text, i), four(text, i + 4), four(text, i + 8), four(text, i + 12), four(text, i + 16));
        }
        x.end(text.length());
    }

    private static int four(String text, int at) {
        int number = 0;
        for (int i = at; i < at + 4; i++) {
            number = number << 8 | (i < text.length() ? text.charAt(i) & 255 : 0);
        }
        return number;
    }

    static int tell(BellRingers x, String text) {
        put(x, text);
        return x.village();
    }

    static BellRingers of(String text) {
        BellRingers x = new BellRingers();
        if (tell(x, text) < 0) {
            wrong++;
            System.out.println("fault " + x.fault(0) + " at " + x.fault(1) + " of: " + text);
        }
        return x;
    }

    /** The text must have this fault at this place; 0 and -1: none. */
    static void fault(String text, int kind, int place) {
        BellRingers x = new BellRingers();
        tell(x, text);
        same("fault(0) of " + text, x.fault(0), kind);
        same("fault(1) of " + text, x.fault(1), place);
    }

    static void lie(String what, BellRingers x, int... due) {
        same(what + ": about(12)", x.about(12), due.length);
        for (int i = 0; i < due.length; i++) {
            same(what + ": lies(" + i + ")", x.lies(i), due[i]);
        }
        same(what + ": lies behind the last", x.lies(due.length), -2);
    }

    static void finish() {
        System.out.println(right + " answers as due, " + wrong + " not");
        if (wrong > 0) {
            System.exit(1);
        }
    }
}
