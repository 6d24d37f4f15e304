/** The runs that README.md shows, with the answers it tells. */
public final class ReadmeTest {
    private ReadmeTest() {
    }

    private static BellRingers told() {
        BellRingers x = new BellRingers();
        x.feed(0x70657273, 0x6F6E2061, 0x20686173, 0x2035203B, 0x62656C6C);
        x.feed(0x20782068, 0x6F757220, 0x313B6C6F, 0x73657320, 0x61207820);
        Check.same("2 feed", x.feed(0x323B0000, 0, 0, 0, 0), 60);
        Check.same("3 end(42)", x.end(42), 42);
        Check.same("4 village()", x.village(), 1);
        return x;
    }

    private static void firstRun() {
        BellRingers x = told();
        Check.same("5 no fault", x.fault(0), 0);
        Check.same("9 ringer(0)", x.ringer(0), 0);
        Check.same("11 day()", x.day(), 2);
        Check.same("6 person(0, 0)", x.person(0, 0), 3);
        Check.same("16 undo()", x.undo(), true);
        Check.same("6 person(0, 0) again", x.person(0, 0), 5);
    }

    private static void secondRun() {
        BellRingers x = told();
        Check.same("21 order()", x.order(), 2);
        Check.lie("21 order()", x, 0);
        Check.same("41 seen(1, 0, 0, true)", x.seen(1, 0, 0, true), 0);
        Check.same("44 fits(0)", x.fits(0), 20);
        Check.same("47 image(2)", x.image(2), 0);
        Check.same("15 gift(0, 9)", x.gift(0, 9), 14);
        Check.same("48 back(2)", x.back(2), 0);
        Check.same("6 person(0, 0) as it was kept", x.person(0, 0), 5);
    }

    public static void main(String[] args) {
        firstRun();
        secondRun();
        Check.finish();
    }
}
