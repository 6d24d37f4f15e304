import java.util.ArrayList;
import java.util.List;

/** All that can be known of an object from outside, as rows of numbers that two objects can be compared by. */
final class Whole {
    private static final int PEOPLE = 6;
    private static final int BELLS = 5;

    private Whole() {
    }

    /** What is told of the latest village(). */
    static List<Integer> faults(BellRingers x) {
        return List.of(x.fault(-1), x.fault(0), x.fault(1), x.fault(2));
    }

    /** What can be asked without a change of anything, but for the fault. */
    static List<Integer> look(BellRingers x) {
        List<Integer> all = new ArrayList<>();
        for (int what = -1; what <= 14; what++) {
            all.add(x.about(what));
        }
        for (int i = -1; i <= PEOPLE; i++) {
            all.add(x.lies(i));
        }
        all.addAll(state(x));
        for (int person = -1; person <= PEOPLE; person++) {
            for (int bell = -1; bell <= BELLS; bell++) {
                all.add(x.weight(person, bell));
            }
        }
        for (int bell = -1; bell <= BELLS; bell++) {
            all.add(x.hour(bell));
            all.add(x.ringer(bell));
            for (int n = 1; n <= 4; n++) {
                all.add(x.will(bell, n, 0));
                all.add(x.will(bell, n, 1));
            }
        }
        all.addAll(known(x));
        return all;
    }

    /** What an image keeps. */
    static List<Integer> state(BellRingers x) {
        List<Integer> all = new ArrayList<>();
        for (int what = 3; what <= 5; what++) {
            all.add(x.about(what));
        }
        for (int person = 0; person < PEOPLE; person++) {
            for (int what = 0; what < 3; what++) {
                all.add(x.person(person, what));
            }
            for (int bell = 0; bell < BELLS; bell++) {
                all.add(x.loss(person, bell));
            }
        }
        return all;
    }

    /** What is known by what was SEEN, at all times that matter in the tests, and by the odds. */
    private static List<Integer> known(BellRingers x) {
        List<Integer> all = new ArrayList<>();
        int now = x.about(9);
        for (int k = now - 6; k <= now + 1; k++) {
            all.add(x.fits(k));
            all.add(x.sure(0, k));
            all.add(x.sure(1, k));
            all.add(x.ask(2, 0, k));
            all.add(x.ask(2, 1, k));
        }
        for (int n = 0; n <= 4; n++) {
            all.add(x.odds(n, 0));
            all.add(x.odds(n, 1));
        }
        return all;
    }

    /** What only going on brings to light: the acts that are kept, the boxes, what was untold, the tape. */
    static List<Integer> goOn(BellRingers x) {
        List<Integer> all = new ArrayList<>();
        int undone = 0;
        while (undone < 50 && x.undo()) {
            undone++;
            all.addAll(state(x));
        }
        all.add(undone);
        int redone = 0;
        while (redone < 50 && x.redo()) {
            redone++;
            all.addAll(state(x));
        }
        all.add(redone);
        for (int seen = 0; seen <= 30; seen++) {
            all.add(x.untell(seen) ? 1 : 0);
        }
        all.add(x.seen(1, 0, 0, true));
        all.addAll(known(x));
        for (int box = 0; box < 3; box++) {
            all.add(x.back(box));
            all.addAll(state(x));
        }
        all.add(x.village());
        all.addAll(faults(x));
        all.addAll(look(x));
        return all;
    }
}
