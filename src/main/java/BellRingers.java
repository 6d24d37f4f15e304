import java.util.Arrays;

/**
 * A village in which each bell is rung by whoever least wants it heard.
 * The document DOC.md has the meaning of every call; words in capitals there are explained there.
 */
public final class BellRingers {
    public static final int NONE = -1;

    private static final int NO_SUCH = -2;
    private static final int NO_WEIGHT = -1000000000;

    private static final int MOST_BYTES = 1600;
    private static final int MOST_PEOPLE = 6;
    private static final int MOST_BELLS = 5;
    private static final int MOST_CELLS = MOST_PEOPLE * MOST_BELLS;
    private static final int MOST_LOSES = 20;
    private static final int MOST_UNITS = 30;
    private static final int DEEPEST = 7;
    /** 30 units, 29 signs between them, and 7 times not ahead of each unit, at the most. */
    private static final int MOST_STEPS = 300;
    private static final int MOST_HAD = 999;
    private static final int MOST_RUNG = 999;
    private static final int MOST_LOSS = 20;
    private static final int MOST_GIVEN = 99;
    private static final int LAST_DAY = 999;
    private static final int LAST_HOUR = 23;
    private static final int HUNDRED = 100;
    private static final int SEEDS = 1000;
    private static final int MOST_ACTS = 40;
    private static final int FAR = 60;
    private static final int MOST_RINGS = 4;
    private static final int COST_OF_GOING = 3;
    private static final int MOST_SEEN = 30;
    private static final int LAST_SEEN_DAY = 12;
    private static final int MOST_LATER = 1000;
    private static final int LAST_TIME = 100000;
    private static final int BOXES = 3;

    private static final int NO_TOKEN = 1;
    private static final int MISPLACED = 2;
    private static final int TOLD_TWICE = 3;
    private static final int WRONG_NUMBER = 4;
    private static final int UNKNOWN_NAME = 5;

    /** Kinds of tokens; a sign is its own byte, so these keep away from 32 .. 127. */
    private static final int END = 0;
    private static final int BAD = 1;
    private static final int NAME = 2;
    private static final int NUMBER = 3;
    private static final int PERSON = 200;
    private static final int BELL = 201;
    private static final int LOSES = 202;
    private static final int WEIGHS = 203;
    private static final int FACES = 204;
    private static final int DRAW = 205;
    private static final int HAS = 206;
    private static final int HOUR = 207;
    private static final int LOSS = 208;
    private static final int RUNG = 209;
    private static final int HERE = 210;
    private static final int DAY = 211;
    private static final int FIRST_VALUE = HAS;
    private static final int LAST_VALUE = DAY;
    private static final int OR = 212;
    private static final int AND = 213;
    private static final int NOT = 214;

    /** The words that are no names, from PERSON on, a byte a letter. */
    private static final long[] WORDS = {
        0x706572736F6EL, // person
        0x62656C6CL,     // bell
        0x6C6F736573L,   // loses
        0x776569676873L, // weighs
        0x6661636573L,   // faces
        0x64726177L,     // draw
        0x686173L,       // has
        0x686F7572L,     // hour
        0x6C6F7373L,     // loss
        0x72756E67L,     // rung
        0x68657265L,     // here
        0x646179L,       // day
        0x6F72L,         // or
        0x616E64L,       // and
        0x6E6F74L,       // not
    };

    private final Tape tape = new Tape();
    private final Village told = new Village();
    private final Reader reader = new Reader(tape);
    private final Ringing ringing = new Ringing(told);
    private final Ahead ahead = new Ahead(told, ringing);
    private final Plans plans = new Plans(told, ringing);
    private final Watch watch = new Watch(told, ringing);
    private final Acts acts = new Acts();
    /** What lies there. */
    private final int[] lying = new int[MOST_PEOPLE];
    private int lyingCount = 0;
    private final State[] boxes = new State[BOXES];
    private int boxesFilled = 0;
    private State now = new State();
    private int faultKind = 0;
    private int faultPlace = NONE;

    public BellRingers() {
        for (int i = 0; i < BOXES; i++) {
            boxes[i] = new State();
        }
    }

    // ---- the text

    public int feed(int a, int b, int c, int d, int e) {
        if (tape.size + 20 > MOST_BYTES) {
            return NONE;
        }
        tape.put(a);
        tape.put(b);
        tape.put(c);
        tape.put(d);
        tape.put(e);
        return tape.size;
    }

    public int end(int n) {
        if (n < 0 || n > tape.size) {
            return NONE;
        }
        tape.size = n;
        return n;
    }

    public int village() {
        boolean stands = reader.readsAll();
        tape.size = 0;
        faultKind = reader.faultKind;
        faultPlace = reader.faultPlace;
        if (!stands) {
            return NONE;
        }
        told.copyFrom(reader.draft);
        told.begin(now);
        acts.forget();
        watch.forget();
        lyingCount = 0;
        boxesFilled = 0;
        return told.people;
    }

    public int fault(int what) {
        return switch (what) {
            case 0 -> faultKind;
            case 1 -> faultPlace;
            default -> NONE;
        };
    }

    // ---- what is so now

    public int person(int person, int what) {
        if (!told.isPerson(person)) {
            return NONE;
        }
        return switch (what) {
            case 0 -> now.has[person];
            case 1 -> now.rang[person];
            case 2 -> now.here >> person & 1;
            case 3 -> now.fears(person);
            case 4 -> ahead.bellsNextDay(now, person);
            default -> NONE;
        };
    }

    public int loss(int person, int bell) {
        return told.isPair(person, bell) ? now.loss[cell(person, bell)] : NONE;
    }

    public int weight(int person, int bell) {
        if (!told.isPair(person, bell)) {
            return NO_WEIGHT;
        }
        return told.formula.comesTo(now, person, bell, told.hours[bell]);
    }

    public int ringer(int bell) {
        return told.isBell(bell) ? ringing.chosen(now, bell) : NO_SUCH;
    }

    public int hour(int bell) {
        return told.isBell(bell) ? told.hours[bell] : NONE;
    }

    // ---- acts

    public int day() {
        if (now.day >= LAST_DAY) {
            return NONE;
        }
        acts.keep(now);
        return ringing.passDay(now, true);
    }

    public int want(int person, int bell, int loss) {
        if (!told.isPair(person, bell) || !within(loss, 0, MOST_LOSS)) {
            return NONE;
        }
        int before = now.loss[cell(person, bell)];
        if (before == loss) {
            return NONE;
        }
        acts.keep(now);
        now.loss[cell(person, bell)] = loss;
        return before;
    }

    public int leave(int person) {
        if (!told.isPerson(person) || !now.isHere(person)) {
            return NONE;
        }
        acts.keep(now);
        now.here &= ~(1 << person);
        return Integer.bitCount(now.here);
    }

    public int come(int person) {
        if (!told.isPerson(person) || now.isHere(person)) {
            return NONE;
        }
        acts.keep(now);
        now.here |= 1 << person;
        return Integer.bitCount(now.here);
    }

    public int gift(int person, int more) {
        if (!told.isPerson(person) || !within(more, 1, MOST_GIVEN) || now.has[person] >= MOST_HAD) {
            return NONE;
        }
        acts.keep(now);
        now.has[person] = Math.min(MOST_HAD, now.has[person] + more);
        return now.has[person];
    }

    public boolean undo() {
        State before = acts.takenBack(now);
        if (before == null) {
            return false;
        }
        now = before;
        return true;
    }

    public boolean redo() {
        State after = acts.doneAgain(now);
        if (after == null) {
            return false;
        }
        now = after;
        return true;
    }

    // ---- what lies ahead

    public int will(int bell, int n, int what) {
        if (!told.isBell(bell) || !within(n, 1, FAR) || !within(what, 0, 1)) {
            return NO_SUCH;
        }
        ahead.passDays(now, n, what == 1);
        return ringing.ringers[bell];
    }

    public int purse(int person, int n) {
        if (!told.isPerson(person) || !within(n, 0, FAR)) {
            return NONE;
        }
        ahead.passDays(now, n, false);
        return ahead.trial.has[person];
    }

    public int cost(int n) {
        return within(n, 0, FAR) ? ahead.passDays(now, n, false) : NONE;
    }

    public int order() {
        int least = plans.bestOrder(now);
        layDown(plans.best, told.bells);
        return least;
    }

    public int duties(int what) {
        if (!within(what, 0, 1)) {
            return NONE;
        }
        plans.shareOut(now);
        layDown(plans.best, told.bells);
        return what == 0 ? plans.bestCount : plans.bestLost;
    }

    public int hush(int what) {
        if (!within(what, 0, 1)) {
            return NONE;
        }
        int sent = ahead.sentToHush(now);
        return what == 0 ? Integer.bitCount(sent) : sent;
    }

    public int spare(int what) {
        if (!within(what, 0, 1)) {
            return NONE;
        }
        int who = ahead.bestSpared(now);
        return what == 0 || who == NONE ? who : ahead.passWithout(now, 1 << who);
    }

    public int chorus(int what) {
        if (!within(what, 0, 1)) {
            return NONE;
        }
        int singers = plans.fewestForAll(now);
        return what == 0 ? Integer.bitCount(singers) : singers;
    }

    public int wish(int person, int bell) {
        if (!told.isPair(person, bell) || !now.isHere(person)) {
            return NONE;
        }
        return ahead.leastToRing(now, person, bell);
    }

    public int ruin(int person) {
        return told.isPerson(person) ? ahead.daysToNothing(now, person) : NONE;
    }

    public int hides(int person) {
        if (!told.isPerson(person) || !now.isHere(person)) {
            return NONE;
        }
        return ahead.hiddenBehind(now, person);
    }

    public int staying(int person, int other) {
        lyingCount = 0;
        if (!told.isPerson(person) || !told.isPerson(other) || person == other) {
            return NONE;
        }
        if (!now.isHere(person) || !now.isHere(other)) {
            return NONE;
        }
        int rests = ahead.restsOfTwo(now, person, other);
        if (rests > 0) {
            layDown(ahead.firstRest, 2);
        }
        return rests;
    }

    public int slight(int n) {
        return within(n, 0, FAR) ? ahead.idleFor(now, n) : NONE;
    }

    public int list() {
        plans.greatList(now);
        layDown(plans.best, told.people);
        return told.people;
    }

    public int silent() {
        return ahead.silentNextDay(now);
    }

    public int dreaded() {
        return plans.mostFeared(now);
    }

    public int untouched() {
        int bits = 0;
        for (int person = 0; person < told.people; person++) {
            if (now.fears(person) == 0) {
                bits |= 1 << person;
            }
        }
        return bits;
    }

    public int richest() {
        int who = NONE;
        for (int person = 0; person < told.people; person++) {
            if (who == NONE || now.has[person] > now.has[who]) {
                who = person;
            }
        }
        return who;
    }

    public int busiest() {
        return ahead.ringsMost(now);
    }

    public int law(int n) {
        return within(n, 0, MOST_LOSS) ? ahead.rungIfAllLose(now, n) : NONE;
    }

    public int hushed(int bell) {
        return told.isBell(bell) ? ahead.daysToSilence(now, bell) : NONE;
    }

    public int odds(int n, int part) {
        if (!within(n, 0, MOST_RINGS) || !within(part, 0, 1)) {
            return NONE;
        }
        int shared = commonDivisor(HUNDRED - told.faces, HUNDRED);
        int once = (part == 0 ? HUNDRED - told.faces : HUNDRED) / shared;
        int power = 1;
        for (int i = 0; i < n; i++) {
            power *= once;
        }
        return power;
    }

    public int lies(int i) {
        return i >= 0 && i < lyingCount ? lying[i] : NO_SUCH;
    }

    // ---- what is seen

    public int seen(int day, int bell, int person, boolean is) {
        if (!within(day, 1, LAST_SEEN_DAY) || !told.isPair(person, bell) || told.loses == 0) {
            return NONE;
        }
        return watch.add(day, bell, person, is);
    }

    public boolean untell(int seen) {
        return watch.takeOut(seen);
    }

    public int later(int by) {
        if (!within(by, 0, MOST_LATER) || watch.time + by > LAST_TIME) {
            return NONE;
        }
        watch.time += by;
        return watch.time;
    }

    public int fits(int k) {
        return Integer.bitCount(watch.fitting(k));
    }

    public int sure(int what, int k) {
        if (!within(what, 0, 1)) {
            return NONE;
        }
        int fitting = watch.fitting(k);
        if (fitting == 0) {
            return NONE;
        }
        return what == 0 ? watch.least(fitting) : watch.greatest(fitting);
    }

    public int ask(int day, int what, int k) {
        if (!within(day, 1, LAST_SEEN_DAY) || !within(what, 0, 1)) {
            return NONE;
        }
        int fitting = watch.fitting(k);
        if (fitting == 0) {
            return NONE;
        }
        watch.countAnswers(day, fitting);
        int bell = watch.bestAsked();
        return what == 0 || bell == NONE ? bell : watch.leftAtMost(bell);
    }

    // ---- images

    public int image(int box) {
        if (!within(box, 0, BOXES - 1)) {
            return NONE;
        }
        boxes[box].copyFrom(now);
        boxesFilled |= 1 << box;
        return now.day;
    }

    public int back(int box) {
        if (!within(box, 0, BOXES - 1) || (boxesFilled >> box & 1) == 0) {
            return NONE;
        }
        now.copyFrom(boxes[box]);
        acts.forget();
        return now.day;
    }

    public int about(int what) {
        return switch (what) {
            case 0 -> told.people;
            case 1 -> told.bells;
            case 2 -> told.loses;
            case 3 -> now.here;
            case 4 -> now.day;
            case 5 -> now.seed;
            case 6 -> acts.done;
            case 7 -> acts.kept - acts.done;
            case 8 -> watch.count;
            case 9 -> watch.time;
            case 10 -> tape.size;
            case 11 -> told.formula.units;
            case 12 -> lyingCount;
            case 13 -> told.faces;
            default -> NONE;
        };
    }

    // ---- small helps

    private void layDown(int[] numbers, int many) {
        lyingCount = Math.min(many, Math.min(lying.length, numbers.length));
        System.arraycopy(numbers, 0, lying, 0, lyingCount);
    }

    private static boolean within(int number, int least, int most) {
        return number >= least && number <= most;
    }

    private static int cell(int person, int bell) {
        return person * MOST_BELLS + bell;
    }

    /** At least 1, so that it may divide. */
    private static int commonDivisor(int a, int b) {
        int large = b;
        int small = a;
        for (int i = 0; i < HUNDRED && small > 0; i++) {
            int rest = large % small;
            large = small;
            small = rest;
        }
        return Math.max(1, large);
    }

    /** The bytes that were fed. */
    private static final class Tape {
        final byte[] bytes = new byte[MOST_BYTES];
        int size = 0;

        void put(int number) {
            for (int shift = 24; shift >= 0; shift -= 8) {
                if (size < bytes.length) {
                    bytes[size] = (byte) (number >> shift);
                    size++;
                }
            }
        }

        /** The byte at a place, 0 .. 255; NONE behind the end. */
        int at(int place) {
            return place >= 0 && place < size && place < bytes.length ? bytes[place] & 255 : NONE;
        }
    }

    /** What weighs tells, as steps in which the signs stand behind what they join. */
    private static final class Formula {
        /** A number is its own step; a word or a sign is its token below 0. */
        private final int[] steps = new int[MOST_STEPS];
        private final int[] stack = new int[MOST_UNITS];
        /** What the words stand for while one weight is reckoned. */
        private final int[] values = new int[LAST_VALUE - FIRST_VALUE + 1];
        private int size = 0;
        int units = 0;

        void clear() {
            size = 0;
            units = 0;
        }

        void add(int step) {
            if (size < steps.length) {
                steps[size] = step;
                size++;
            }
        }

        void copyFrom(Formula other) {
            System.arraycopy(other.steps, 0, steps, 0, steps.length);
            size = other.size;
            units = other.units;
        }

        int comesTo(State state, int person, int bell, int hour) {
            int loss = state.loss[cell(person, bell)];
            if (size == 0) {
                return loss - state.rang[person];
            }
            values[HAS - FIRST_VALUE] = state.has[person];
            values[HOUR - FIRST_VALUE] = hour;
            values[LOSS - FIRST_VALUE] = loss;
            values[RUNG - FIRST_VALUE] = state.rang[person];
            values[HERE - FIRST_VALUE] = Integer.bitCount(state.here);
            values[DAY - FIRST_VALUE] = state.day;
            int top = 0;
            for (int i = 0; i < size; i++) {
                int step = steps[i];
                if (step == -NOT) {
                    if (top > 0) {
                        stack[top - 1] = stack[top - 1] == 0 ? 1 : 0;
                    }
                } else if (step >= 0 || isValue(-step)) {
                    if (top < stack.length) {
                        stack[top] = step >= 0 ? step : values[-step - FIRST_VALUE];
                        top++;
                    }
                } else if (top > 1) {
                    top--;
                    stack[top - 1] = joined(step, stack[top - 1], stack[top]);
                }
            }
            return stack[0];
        }

        static boolean isValue(int token) {
            return token >= FIRST_VALUE && token <= LAST_VALUE;
        }

        private static int joined(int step, int left, int right) {
            return switch (step) {
                case -OR -> left != 0 || right != 0 ? 1 : 0;
                case -AND -> left != 0 && right != 0 ? 1 : 0;
                case -'<' -> left < right ? 1 : 0;
                case -'>' -> left > right ? 1 : 0;
                case -'=' -> left == right ? 1 : 0;
                case -'+' -> left + right;
                case -'-' -> left - right;
                case -'*' -> left * right;
                case -'/' -> right == 0 ? 0 : left / right;
                case -'%' -> right == 0 ? 0 : left % right;
                default -> 0;
            };
        }
    }

    /** What the text tells. */
    private static final class Village {
        final int[] has = new int[MOST_PEOPLE];
        final int[] hours = new int[MOST_BELLS];
        final int[] loss = new int[MOST_CELLS];
        final Formula formula = new Formula();
        int people = 0;
        int bells = 0;
        int loses = 0;
        /** The cell of the last of loses: it is the one that is not known to the watch. */
        int lastCell = NONE;
        int faces = 0;
        int draw = 0;

        void clear() {
            Arrays.fill(loss, 0);
            formula.clear();
            people = 0;
            bells = 0;
            loses = 0;
            lastCell = NONE;
            faces = 0;
            draw = 0;
        }

        void copyFrom(Village other) {
            System.arraycopy(other.has, 0, has, 0, has.length);
            System.arraycopy(other.hours, 0, hours, 0, hours.length);
            System.arraycopy(other.loss, 0, loss, 0, loss.length);
            formula.copyFrom(other.formula);
            people = other.people;
            bells = other.bells;
            loses = other.loses;
            lastCell = other.lastCell;
            faces = other.faces;
            draw = other.draw;
        }

        /** Makes all as it is told. */
        void begin(State state) {
            System.arraycopy(has, 0, state.has, 0, has.length);
            System.arraycopy(loss, 0, state.loss, 0, loss.length);
            Arrays.fill(state.rang, 0);
            state.here = (1 << people) - 1;
            state.day = 0;
            state.seed = draw;
        }

        boolean isPerson(int person) {
            return person >= 0 && person < people;
        }

        boolean isBell(int bell) {
            return bell >= 0 && bell < bells;
        }

        boolean isPair(int person, int bell) {
            return isPerson(person) && isBell(bell);
        }
    }

    /** What changes by acts. */
    private static final class State {
        final int[] has = new int[MOST_PEOPLE];
        final int[] rang = new int[MOST_PEOPLE];
        final int[] loss = new int[MOST_CELLS];
        int here = 0;
        int day = 0;
        int seed = 0;

        void copyFrom(State other) {
            System.arraycopy(other.has, 0, has, 0, has.length);
            System.arraycopy(other.rang, 0, rang, 0, rang.length);
            System.arraycopy(other.loss, 0, loss, 0, loss.length);
            here = other.here;
            day = other.day;
            seed = other.seed;
        }

        boolean isHere(int person) {
            return (here >> person & 1) == 1;
        }

        /** The bells by which one has a loss, as bits; one of a bell that is not told is never above 0. */
        int fears(int person) {
            int bits = 0;
            for (int bell = 0; bell < MOST_BELLS; bell++) {
                if (loss[cell(person, bell)] > 0) {
                    bits |= 1 << bell;
                }
            }
            return bits;
        }
    }

    /** Cuts the tape into tokens, one at a time. */
    private static final class Tokens {
        private static final int LONGEST_WORD = 8;
        private static final int LONGEST_NUMBER = 4;

        private final Tape tape;
        private int next = 0;
        int token = END;
        int place = 0;
        int number = 0;
        /** A word's letters, a byte each. */
        long name = 0;

        Tokens(Tape tape) {
            this.tape = tape;
        }

        void start() {
            next = 0;
            advance();
        }

        void advance() {
            while (next < tape.size && isBlank(tape.at(next))) {
                next++;
            }
            place = next;
            int sign = tape.at(place);
            if (sign == NONE) {
                token = END;
            } else if (isLetter(sign)) {
                scanWord();
            } else if (isDigit(sign)) {
                scanNumber();
            } else {
                token = isSign(sign) ? sign : BAD;
                next++;
            }
        }

        private void scanWord() {
            name = 0;
            while (next < tape.size && isLetter(tape.at(next))) {
                name = name << 8 | tape.at(next);
                next++;
            }
            token = next - place > LONGEST_WORD ? BAD : kindOfWord();
        }

        private int kindOfWord() {
            for (int i = 0; i < WORDS.length; i++) {
                if (WORDS[i] == name) {
                    return PERSON + i;
                }
            }
            return NAME;
        }

        private void scanNumber() {
            number = 0;
            while (next < tape.size && isDigit(tape.at(next))) {
                number = number * 10 + tape.at(next) - '0';
                next++;
            }
            boolean tooLong = next - place > LONGEST_NUMBER;
            token = tooLong || isLetter(tape.at(next)) ? BAD : NUMBER;
        }

        private static boolean isBlank(int sign) {
            return sign == ' ' || sign == 10;
        }

        private static boolean isLetter(int sign) {
            return sign >= 'a' && sign <= 'z';
        }

        private static boolean isDigit(int sign) {
            return sign >= '0' && sign <= '9';
        }

        private static boolean isSign(int sign) {
            return switch (sign) {
                case ';', '(', ')', '<', '>', '=', '+', '-', '*', '/', '%' -> true;
                default -> false;
            };
        }
    }

    /**
     * Reads the tape into a draft, so that a fault leaves the village alone.
     * What is wrong is refused at the token at hand, ahead of any later one: so the first fault is the first by place.
     */
    private static final class Reader {
        private static final int EITHER = 0;
        private static final int BOTH = 1;
        private static final int ONE = 2;
        private static final int SUM = 3;
        private static final int TERM = 4;

        private final Tokens tokens;
        private final long[] personNames = new long[MOST_PEOPLE];
        private final long[] bellNames = new long[MOST_BELLS];
        private boolean weighsTold = false;
        private boolean facesTold = false;
        private boolean drawTold = false;
        private int lastNumber = 0;
        final Village draft = new Village();
        int faultKind = 0;
        int faultPlace = NONE;

        Reader(Tape tape) {
            tokens = new Tokens(tape);
        }

        boolean readsAll() {
            clear();
            boolean stands = true;
            for (int line = 0; line < MOST_BYTES && stands && tokens.token != END; line++) {
                stands = switch (tokens.token) {
                    case PERSON -> readsPerson();
                    case BELL -> readsBell();
                    case LOSES -> readsLoses();
                    case WEIGHS -> readsWeighs();
                    case FACES -> readsFaces();
                    case DRAW -> readsDraw();
                    default -> refuses(MISPLACED);
                };
                stands = stands && takes(';');
            }
            return stands;
        }

        private void clear() {
            draft.clear();
            weighsTold = false;
            facesTold = false;
            drawTold = false;
            faultKind = 0;
            faultPlace = NONE;
            tokens.start();
        }

        private boolean readsPerson() {
            if (draft.people >= MOST_PEOPLE) {
                return refuses(MISPLACED);
            }
            tokens.advance();
            if (!takesNewName(personNames, draft.people) || !takes(HAS) || !takesNumber(0, MOST_HAD)) {
                return false;
            }
            draft.has[draft.people] = lastNumber;
            draft.people++;
            return true;
        }

        private boolean readsBell() {
            if (draft.bells >= MOST_BELLS) {
                return refuses(MISPLACED);
            }
            tokens.advance();
            if (!takesNewName(bellNames, draft.bells) || !takes(HOUR) || !takesNumber(0, LAST_HOUR)) {
                return false;
            }
            draft.hours[draft.bells] = lastNumber;
            draft.bells++;
            return true;
        }

        private boolean readsLoses() {
            if (draft.loses >= MOST_LOSES) {
                return refuses(MISPLACED);
            }
            tokens.advance();
            int person = knownName(personNames, draft.people);
            if (person == NONE) {
                return false;
            }
            tokens.advance();
            int bell = knownName(bellNames, draft.bells);
            if (bell == NONE) {
                return false;
            }
            int pair = cell(person, bell);
            if (draft.loss[pair] > 0) {
                return refuses(TOLD_TWICE);
            }
            tokens.advance();
            if (!takesNumber(1, MOST_LOSS)) {
                return false;
            }
            draft.loss[pair] = lastNumber;
            draft.lastCell = pair;
            draft.loses++;
            return true;
        }

        private boolean readsWeighs() {
            if (weighsTold) {
                return refuses(MISPLACED);
            }
            weighsTold = true;
            tokens.advance();
            return readsLevel(EITHER, 0);
        }

        private boolean readsFaces() {
            if (facesTold) {
                return refuses(MISPLACED);
            }
            facesTold = true;
            tokens.advance();
            if (!takesNumber(0, HUNDRED)) {
                return false;
            }
            draft.faces = lastNumber;
            return true;
        }

        private boolean readsDraw() {
            if (drawTold) {
                return refuses(MISPLACED);
            }
            drawTold = true;
            tokens.advance();
            if (!takesNumber(0, SEEDS - 1)) {
                return false;
            }
            draft.draw = lastNumber;
            return true;
        }

        // what the formula is made of; depth: how many ( e ) and ones behind not stand around

        private boolean readsLevel(int level, int depth) {
            if (level > TERM) {
                return readsUnit(depth);
            }
            if (level == ONE && tokens.token == NOT) {
                return readsNot(depth);
            }
            boolean stands = readsLevel(level + 1, depth);
            int most = level == ONE ? 1 : MOST_UNITS;
            for (int i = 0; i < most && stands && levelOf(tokens.token) == level; i++) {
                int sign = tokens.token;
                tokens.advance();
                stands = readsLevel(level + 1, depth);
                draft.formula.add(-sign);
            }
            return stands;
        }

        /** The level at which a token joins two; NONE if at none. */
        private static int levelOf(int token) {
            return switch (token) {
                case OR -> EITHER;
                case AND -> BOTH;
                case '<', '>', '=' -> ONE;
                case '+', '-' -> SUM;
                case '*', '/', '%' -> TERM;
                default -> NONE;
            };
        }

        private boolean readsNot(int depth) {
            if (depth >= DEEPEST) {
                return refuses(MISPLACED);
            }
            tokens.advance();
            boolean stands = readsLevel(ONE, depth + 1);
            draft.formula.add(-NOT);
            return stands;
        }

        private boolean readsUnit(int depth) {
            int token = tokens.token;
            boolean inner = token == '(';
            boolean plain = token == NUMBER || Formula.isValue(token);
            if (draft.formula.units >= MOST_UNITS || !inner && !plain || inner && depth >= DEEPEST) {
                return refuses(MISPLACED);
            }
            draft.formula.units++;
            if (plain) {
                draft.formula.add(token == NUMBER ? tokens.number : -token);
            }
            tokens.advance();
            return plain || readsLevel(EITHER, depth + 1) && takes(')');
        }

        // what lines are made of

        private boolean takes(int token) {
            if (tokens.token != token) {
                return refuses(MISPLACED);
            }
            tokens.advance();
            return true;
        }

        private boolean takesNumber(int least, int most) {
            if (tokens.token != NUMBER) {
                return refuses(MISPLACED);
            }
            if (!within(tokens.number, least, most)) {
                return refuses(WRONG_NUMBER);
            }
            lastNumber = tokens.number;
            tokens.advance();
            return true;
        }

        private boolean takesNewName(long[] names, int count) {
            if (tokens.token != NAME) {
                return refuses(MISPLACED);
            }
            if (numberOfName(names, count) != NONE) {
                return refuses(TOLD_TWICE);
            }
            if (count < names.length) {
                names[count] = tokens.name;
            }
            tokens.advance();
            return true;
        }

        /** Stays at the name: the two of loses can be refused there. */
        private int knownName(long[] names, int count) {
            if (tokens.token != NAME) {
                refuses(MISPLACED);
                return NONE;
            }
            int found = numberOfName(names, count);
            if (found == NONE) {
                refuses(UNKNOWN_NAME);
            }
            return found;
        }

        private int numberOfName(long[] names, int count) {
            for (int i = 0; i < count && i < names.length; i++) {
                if (names[i] == tokens.name) {
                    return i;
                }
            }
            return NONE;
        }

        /** Always false: nothing stands behind a fault. */
        private boolean refuses(int kind) {
            faultKind = tokens.token == BAD ? NO_TOKEN : kind;
            faultPlace = tokens.place;
            return false;
        }
    }

    /** How the bells of a day are rung. */
    private static final class Ringing {
        private final Village told;
        /** Who rang each bell on the latest day that was passed. */
        final int[] ringers = new int[MOST_BELLS];

        Ringing(Village told) {
            this.told = told;
        }

        int chosen(State state, int bell) {
            int who = NONE;
            int most = 0;
            for (int person = 0; person < told.people; person++) {
                if (state.isHere(person) && state.loss[cell(person, bell)] > 0) {
                    int weight = told.formula.comesTo(state, person, bell, told.hours[bell]);
                    if (weight > most) {
                        who = person;
                        most = weight;
                    }
                }
            }
            return who;
        }

        /** How much is lost by it. */
        int ringBell(State state, int bell, boolean faces) {
            int who = chosen(state, bell);
            ringers[bell] = who;
            if (who == NONE) {
                return 0;
            }
            int lost = Math.min(state.has[who], state.loss[cell(who, bell)]);
            state.rang[who] = Math.min(MOST_RUNG, state.rang[who] + 1);
            state.has[who] -= lost;
            if (faces) {
                state.seed = (state.seed * 137 + 71) % SEEDS;
                if (state.seed % HUNDRED < told.faces) {
                    state.loss[cell(who, bell)] = 0;
                }
            }
            return lost;
        }

        /** How much is lost on it. */
        int passDay(State state, boolean faces) {
            int lost = 0;
            for (int bell = 0; bell < told.bells; bell++) {
                lost += ringBell(state, bell, faces);
            }
            state.day++;
            return lost;
        }

        /** The bells that one rang on the latest day that was passed, as bits. */
        int rungBy(int person) {
            int bits = 0;
            for (int bell = 0; bell < told.bells; bell++) {
                if (ringers[bell] == person) {
                    bits |= 1 << bell;
                }
            }
            return bits;
        }
    }

    /** The acts that can be taken back or done again. */
    private static final class Acts {
        /** For an act that is done how all was ahead of it, for one that was taken back how all was behind it. */
        private final State[] sides = new State[MOST_ACTS];
        int done = 0;
        int kept = 0;

        void forget() {
            done = 0;
            kept = 0;
        }

        void keep(State state) {
            if (done >= sides.length) {
                dropOldest();
            }
            if (sides[done] == null) {
                sides[done] = new State();
            }
            sides[done].copyFrom(state);
            done++;
            kept = done;
        }

        private void dropOldest() {
            State oldest = sides[0];
            for (int i = 1; i < sides.length; i++) {
                sides[i - 1] = sides[i];
            }
            sides[sides.length - 1] = oldest;
            done = sides.length - 1;
        }

        /** How all is then; null if there is no act. */
        State takenBack(State state) {
            if (done <= 0 || done > sides.length) {
                return null;
            }
            done--;
            State before = sides[done];
            sides[done] = state;
            return before;
        }

        /** How all is then; null if there is no act. */
        State doneAgain(State state) {
            if (done >= kept || done >= sides.length) {
                return null;
            }
            State after = sides[done];
            sides[done] = state;
            done++;
            return after;
        }
    }

    /** What would be on the days ahead; only a trial is changed. */
    private static final class Ahead {
        private final Village told;
        private final Ringing ringing;
        final State trial = new State();
        /** Who rings what as it is, while another day is tried. */
        private final int[] rungAsIs = new int[MOST_PEOPLE];
        /** What two lose, by whether they are here: 2 for the first one, 1 for the other. */
        private final int[] firstLoses = new int[4];
        private final int[] otherLoses = new int[4];
        final int[] firstRest = new int[2];

        Ahead(Village told, Ringing ringing) {
            this.told = told;
            this.ringing = ringing;
        }

        /** How much is lost on them. */
        int passDays(State now, int n, boolean faces) {
            trial.copyFrom(now);
            int lost = 0;
            for (int i = 0; i < n; i++) {
                lost += ringing.passDay(trial, faces);
            }
            return lost;
        }

        /** How much is lost on the next day, some being away. */
        int passWithout(State now, int away) {
            trial.copyFrom(now);
            trial.here &= ~away;
            return ringing.passDay(trial, false);
        }

        int bellsNextDay(State now, int person) {
            passWithout(now, 0);
            return ringing.rungBy(person);
        }

        int silentNextDay(State now) {
            passWithout(now, 0);
            return ringing.rungBy(NONE);
        }

        int ringsMost(State now) {
            passWithout(now, 0);
            int who = NONE;
            int most = 0;
            for (int person = 0; person < told.people; person++) {
                int many = Integer.bitCount(ringing.rungBy(person));
                if (many > most) {
                    who = person;
                    most = many;
                }
            }
            return who;
        }

        int sentToHush(State now) {
            int all = (1 << told.bells) - 1;
            int best = now.here;
            for (int sent = 0; sent < 1 << told.people; sent++) {
                boolean fewer = Integer.bitCount(sent) < Integer.bitCount(best);
                if (fewer && (sent & ~now.here) == 0) {
                    passWithout(now, sent);
                    if (ringing.rungBy(NONE) == all) {
                        best = sent;
                    }
                }
            }
            return best;
        }

        int bestSpared(State now) {
            int who = NONE;
            int least = 0;
            for (int person = 0; person < told.people; person++) {
                if (now.isHere(person)) {
                    int lost = passWithout(now, 1 << person);
                    if (who == NONE || lost < least) {
                        who = person;
                        least = lost;
                    }
                }
            }
            return who;
        }

        int leastToRing(State now, int person, int bell) {
            for (int loss = 1; loss <= MOST_LOSS; loss++) {
                trial.copyFrom(now);
                trial.loss[cell(person, bell)] = loss;
                ringing.passDay(trial, false);
                if (ringing.ringers[bell] == person) {
                    return loss;
                }
            }
            return NONE;
        }

        int daysToNothing(State now, int person) {
            trial.copyFrom(now);
            for (int days = 0; days <= FAR; days++) {
                if (trial.has[person] == 0) {
                    return days;
                }
                ringing.passDay(trial, false);
            }
            return NONE;
        }

        int daysToSilence(State now, int bell) {
            trial.copyFrom(now);
            for (int days = 1; days <= FAR; days++) {
                ringing.passDay(trial, false);
                if (ringing.ringers[bell] == NONE) {
                    return days;
                }
            }
            return NONE;
        }

        int idleFor(State now, int n) {
            trial.copyFrom(now);
            int idle = now.here;
            for (int i = 0; i < n; i++) {
                ringing.passDay(trial, false);
                for (int bell = 0; bell < told.bells; bell++) {
                    if (ringing.ringers[bell] != NONE) {
                        idle &= ~(1 << ringing.ringers[bell]);
                    }
                }
            }
            return idle;
        }

        int rungIfAllLose(State now, int n) {
            trial.copyFrom(now);
            for (int i = 0; i < MOST_CELLS; i++) {
                if (trial.loss[i] > 0) {
                    trial.loss[i] = n;
                }
            }
            ringing.passDay(trial, false);
            return told.bells - Integer.bitCount(ringing.rungBy(NONE));
        }

        int hiddenBehind(State now, int person) {
            passWithout(now, 0);
            for (int other = 0; other < told.people; other++) {
                rungAsIs[other] = ringing.rungBy(other);
            }
            passWithout(now, 1 << person);
            int bits = 0;
            for (int other = 0; other < told.people; other++) {
                if ((ringing.rungBy(other) & ~rungAsIs[other]) != 0) {
                    bits |= 1 << other;
                }
            }
            return bits;
        }

        int restsOfTwo(State now, int person, int other) {
            for (int choice = 0; choice < 4; choice++) {
                int away = (choice & 2) == 0 ? 1 << person : 0;
                away |= (choice & 1) == 0 ? 1 << other : 0;
                passWithout(now, away);
                firstLoses[choice] = lostBy(now, person);
                otherLoses[choice] = lostBy(now, other);
            }
            int rests = 0;
            for (int choice = 3; choice >= 0; choice--) {
                boolean firstStays = firstLoses[choice ^ 2] >= firstLoses[choice];
                boolean otherStays = otherLoses[choice ^ 1] >= otherLoses[choice];
                if (firstStays && otherStays) {
                    rests++;
                    firstRest[0] = choice >> 1;
                    firstRest[1] = choice & 1;
                }
            }
            return rests;
        }

        private int lostBy(State now, int person) {
            return trial.isHere(person) ? now.has[person] - trial.has[person] : COST_OF_GOING;
        }
    }

    /** Orders, duties and lists: what is best of many ways. */
    private static final class Plans {
        private final Village told;
        private final Ringing ringing;
        private final State trial = new State();
        private final int[] tried = new int[MOST_PEOPLE];
        final int[] best = new int[MOST_PEOPLE];
        int bestCount = 0;
        int bestLost = 0;

        Plans(Village told, Ringing ringing) {
            this.told = told;
            this.ringing = ringing;
        }

        /** The least cost; best has the bells. */
        int bestOrder(State now) {
            for (int i = 0; i < told.bells; i++) {
                tried[i] = i;
            }
            int orders = 1;
            for (int i = 2; i <= told.bells; i++) {
                orders *= i;
            }
            int least = 0;
            for (int i = 0; i < orders; i++) {
                int lost = lostByTried(now);
                if (i == 0 || lost < least) {
                    least = lost;
                    System.arraycopy(tried, 0, best, 0, told.bells);
                }
                nextOrder();
            }
            return least;
        }

        private int lostByTried(State now) {
            trial.copyFrom(now);
            int lost = 0;
            for (int i = 0; i < told.bells; i++) {
                lost += ringing.ringBell(trial, tried[i], false);
            }
            return lost;
        }

        /** The next one by numbers; the last one stays turned round, and is not used. */
        private void nextOrder() {
            int rise = told.bells - 2;
            while (rise >= 0 && tried[rise] > tried[rise + 1]) {
                rise--;
            }
            if (rise >= 0) {
                int over = told.bells - 1;
                while (over > rise && tried[over] < tried[rise]) {
                    over--;
                }
                swapTried(rise, over);
            }
            int left = rise + 1;
            for (int right = told.bells - 1; right > left; right--) {
                swapTried(left, right);
                left++;
            }
        }

        private void swapTried(int one, int other) {
            int kept = tried[one];
            tried[one] = tried[other];
            tried[other] = kept;
        }

        /** The duties; best has who has each bell. */
        void shareOut(State now) {
            bestCount = NONE;
            bestLost = 0;
            shareFrom(now, 0, now.here, 0, 0);
        }

        /** Tries in the order in which like ones come first, so that only a better one takes over. */
        private void shareFrom(State now, int bell, int free, int count, int lost) {
            if (bell >= told.bells) {
                if (count > bestCount || count == bestCount && lost < bestLost) {
                    bestCount = count;
                    bestLost = lost;
                    System.arraycopy(tried, 0, best, 0, told.bells);
                }
                return;
            }
            for (int person = 0; person < told.people; person++) {
                int loss = now.loss[cell(person, bell)];
                if ((free >> person & 1) == 1 && loss > 0) {
                    tried[bell] = person;
                    shareFrom(now, bell + 1, free & ~(1 << person), count + 1, lost + loss);
                }
            }
            tried[bell] = NONE;
            shareFrom(now, bell + 1, free, count, lost);
        }

        int fewestForAll(State now) {
            int needed = fearedBy(now, now.here);
            int fewest = now.here;
            for (int group = 0; group < 1 << told.people; group++) {
                boolean fewer = Integer.bitCount(group) < Integer.bitCount(fewest);
                if (fewer && (group & ~now.here) == 0 && fearedBy(now, group) == needed) {
                    fewest = group;
                }
            }
            return fewest;
        }

        private int fearedBy(State now, int group) {
            int bits = 0;
            for (int person = 0; person < told.people; person++) {
                if ((group >> person & 1) == 1) {
                    bits |= now.fears(person);
                }
            }
            return bits;
        }

        int mostFeared(State now) {
            int feared = NONE;
            int most = 0;
            for (int bell = 0; bell < told.bells; bell++) {
                int together = 0;
                for (int person = 0; person < told.people; person++) {
                    if (now.isHere(person)) {
                        together += now.loss[cell(person, bell)];
                    }
                }
                if (feared == NONE || together > most) {
                    feared = bell;
                    most = together;
                }
            }
            return feared;
        }

        /** Best has the people. */
        void greatList(State now) {
            for (int person = 0; person < told.people; person++) {
                int place = person;
                while (place > 0 && now.rang[best[place - 1]] < now.rang[person]) {
                    best[place] = best[place - 1];
                    place--;
                }
                best[place] = person;
            }
        }
    }

    /** What was seen of the village as it was told, and what may be of the last of loses by that. */
    private static final class Watch {
        private static final int NEVER = LAST_TIME + 1;

        private final Village told;
        private final Ringing ringing;
        private final State trial = new State();
        private final int[] days = new int[MOST_SEEN];
        private final int[] bells = new int[MOST_SEEN];
        private final int[] people = new int[MOST_SEEN];
        private final boolean[] rung = new boolean[MOST_SEEN];
        private final int[] toldAt = new int[MOST_SEEN];
        private final int[] untoldAt = new int[MOST_SEEN];
        /** Bell by bell, how many fit with nobody, and with each of the people, as its ringer. */
        private final int[] answers = new int[MOST_BELLS * (MOST_PEOPLE + 1)];
        int count = 0;
        int time = 0;

        Watch(Village told, Ringing ringing) {
            this.told = told;
            this.ringing = ringing;
        }

        void forget() {
            count = 0;
        }

        int add(int day, int bell, int person, boolean is) {
            if (count >= MOST_SEEN) {
                return NONE;
            }
            days[count] = day;
            bells[count] = bell;
            people[count] = person;
            rung[count] = is;
            toldAt[count] = time;
            untoldAt[count] = NEVER;
            count++;
            return count - 1;
        }

        boolean takeOut(int number) {
            if (number < 0 || number >= count || untoldAt[number] != NEVER) {
                return false;
            }
            untoldAt[number] = time;
            return true;
        }

        private boolean counts(int number, int k) {
            return toldAt[number] <= k && (untoldAt[number] == NEVER || untoldAt[number] > k);
        }

        /** What the last of loses may tell, as bits. */
        int fitting(int k) {
            if (told.loses == 0) {
                return 0;
            }
            int lastDay = 0;
            for (int i = 0; i < count; i++) {
                if (counts(i, k)) {
                    lastDay = Math.max(lastDay, days[i]);
                }
            }
            int bits = 0;
            for (int loss = 0; loss <= MOST_LOSS; loss++) {
                if (holds(loss, lastDay, k)) {
                    bits |= 1 << loss;
                }
            }
            return bits;
        }

        int least(int fitting) {
            int loss = 0;
            while (loss < MOST_LOSS && (fitting >> loss & 1) == 0) {
                loss++;
            }
            return loss;
        }

        int greatest(int fitting) {
            int loss = MOST_LOSS;
            while (loss > 0 && (fitting >> loss & 1) == 0) {
                loss--;
            }
            return loss;
        }

        private boolean holds(int loss, int lastDay, int k) {
            beginWith(loss);
            for (int day = 1; day <= lastDay; day++) {
                ringing.passDay(trial, false);
                for (int i = 0; i < count; i++) {
                    boolean matters = days[i] == day && counts(i, k);
                    if (matters && (ringing.ringers[bells[i]] == people[i]) != rung[i]) {
                        return false;
                    }
                }
            }
            return true;
        }

        private void beginWith(int loss) {
            told.begin(trial);
            if (told.lastCell != NONE) {
                trial.loss[told.lastCell] = loss;
            }
        }

        void countAnswers(int day, int fitting) {
            Arrays.fill(answers, 0);
            for (int loss = 0; loss <= MOST_LOSS; loss++) {
                if ((fitting >> loss & 1) == 1) {
                    beginWith(loss);
                    for (int i = 0; i < day; i++) {
                        ringing.passDay(trial, false);
                    }
                    for (int bell = 0; bell < told.bells; bell++) {
                        answers[answer(bell, ringing.ringers[bell])]++;
                    }
                }
            }
        }

        private static int answer(int bell, int ringer) {
            return bell * (MOST_PEOPLE + 1) + ringer + 1;
        }

        int leftAtMost(int bell) {
            int most = 0;
            for (int ringer = NONE; ringer < told.people; ringer++) {
                most = Math.max(most, answers[answer(bell, ringer)]);
            }
            return most;
        }

        int bestAsked() {
            int best = NONE;
            for (int bell = 0; bell < told.bells; bell++) {
                if (best == NONE || leftAtMost(bell) < leftAtMost(best)) {
                    best = bell;
                }
            }
            return best;
        }
    }
}
