/**
 * A works told as a text: coats and the men who wear them, year by year.
 *
 * Everything that a call needs is made once, in the constructor, and used again by every call.
 */
public final class PegCoats {
    /** None; refused. */
    public static final int NONE = -1;
    /** Told where a number below 0 may be one. */
    public static final long NOTHING = -1000000000000000L;

    private static final int MOST_COATS = 8;
    private static final int MOST_MEN = 7;
    private static final int MOST_STATEMENTS = 80;
    private static final int MOST_OPEN = 7;
    private static final int MOST_SIZE = 99;
    private static final int MOST_AGE = 99;
    private static final int MOST_PAY = 99;
    private static final int MOST_LINING = 99;
    private static final int MOST_PURSE = 9999;
    private static final int LAST_YEAR = 999;
    private static final int HUNDRED = 100;

    private static final int TAPE_LENGTH = 1600;
    private static final int NAME_LENGTH = 6;
    private static final int NUMBER_LENGTH = 4;

    private static final int MOST_AHEAD = 40;
    private static final int MOST_WAIT = 20;
    private static final int MOST_SEEN_YEARS = 30;
    private static final int MOST_ROWS = 16;
    private static final int ROW_LENGTH = 3;
    private static final int MOST_TOLD = 40;
    private static final int MOST_UNDONE = 20;
    private static final int MOST_PASSES = 3;
    private static final int PAIR_FACTOR = 8;
    private static final int BYTE_NO_COAT = 255;

    private static final int REFUSED_TAPE = 0;
    private static final int REFUSED_WORKS = 1;
    private static final int REFUSED_YEARS = 2;
    private static final int REFUSED_CHANGE = 3;
    private static final int REFUSED_UNDO = 4;
    private static final int REFUSED_READING = 5;
    private static final int REFUSED_KINDS = 6;

    private static final int FAULT_GRAMMAR = 1;
    private static final int FAULT_NAME_TAKEN = 2;
    private static final int FAULT_NAME_UNFIT = 3;
    private static final int FAULT_NUMBER = 4;
    private static final int FAULT_OPEN = 5;
    private static final int FAULT_TOO_MANY = 6;

    /** The own words, NAME_LENGTH signs each, in the order of the numbers below. */
    private static final String OWN_WORDS =
            "coat  size  pay   man   age   wears of    warms grows leavesfire  year  liningpurse coatedif    or    and   not   all   min   max   ";
    private static final int WORD_COUNT = 22;
    private static final int WORD_COAT = 0;
    private static final int WORD_SIZE = 1;
    private static final int WORD_PAY = 2;
    private static final int WORD_MAN = 3;
    private static final int WORD_AGE = 4;
    private static final int WORD_WEARS = 5;
    private static final int WORD_OF = 6;
    private static final int WORD_WARMS = 7;
    private static final int WORD_GROWS = 8;
    private static final int WORD_LEAVES = 9;
    private static final int WORD_FIRE = 10;
    private static final int WORD_YEAR = 11;
    private static final int WORD_LINING = 12;
    private static final int WORD_PURSE = 13;
    private static final int WORD_COATED = 14;
    private static final int WORD_IF = 15;
    private static final int WORD_OR = 16;
    private static final int WORD_AND = 17;
    private static final int WORD_NOT = 18;
    private static final int WORD_ALL = 19;
    private static final int WORD_MIN = 20;
    private static final int WORD_MAX = 21;

    /*
     * A program is a row of codes in the order in which they work on a stack: a number from 0 on is
     * itself; below it come the values asked by a word, then what a word does, then what a sign does.
     */
    private static final int CODE_VALUES = -1;
    private static final int CODE_WORDS = -30;
    private static final int CODE_SIGNS = -100;
    private static final int CODE_IF = CODE_WORDS - WORD_IF;
    private static final int CODE_OR = CODE_WORDS - WORD_OR;
    private static final int CODE_AND = CODE_WORDS - WORD_AND;
    private static final int CODE_NOT = CODE_WORDS - WORD_NOT;
    private static final int CODE_MIN = CODE_WORDS - WORD_MIN;
    private static final int CODE_MAX = CODE_WORDS - WORD_MAX;
    private static final int CODE_PLUS = CODE_SIGNS - '+';
    private static final int CODE_MINUS = CODE_SIGNS - '-';
    private static final int CODE_TIMES = CODE_SIGNS - '*';
    private static final int CODE_OVER = CODE_SIGNS - '/';
    private static final int CODE_REST = CODE_SIGNS - '%';
    private static final int CODE_BELOW = CODE_SIGNS - '<';
    private static final int CODE_ABOVE = CODE_SIGNS - '>';
    private static final int CODE_LIKE = CODE_SIGNS - '=';

    private static final int PROGRAM_WARMS = 0;
    private static final int PROGRAM_GROWS = 1;
    private static final int PROGRAM_LEAVES = 2;
    private static final int PROGRAMS = 3;

    private final Tape tape = new Tape();
    private final Works told = new Works();
    private final Works trial = new Works();
    private final Reading reading = new Reading(tape, trial);
    private final Course course = new Course(told);
    private final State now = new State();
    private final State ahead = new State();
    private final State waiting = new State();
    private final History history = new History();
    private final Matching matching = new Matching(told);
    private final Passing passing = new Passing(told);
    private final Telling telling = new Telling(told, course);
    private final Picture picture = new Picture(told);
    private final int[] log = new int[LAST_YEAR];
    private final int[] refusals = new int[REFUSED_KINDS];
    private int drawn = 1;

    public PegCoats() {
        now.begin(told);
    }

    // ---- the text

    public int feed(int a, int b, int c, int d, int e) {
        if (!tape.hasRoom(20)) {
            return refuse(REFUSED_TAPE);
        }
        tape.add(a);
        tape.add(b);
        tape.add(c);
        tape.add(d);
        tape.add(e);
        return tape.length;
    }

    public boolean end(int n) {
        return tape.cut(n) || deny(REFUSED_TAPE);
    }

    public int works() {
        reading.readAll();
        tape.clear();
        if (reading.failed()) {
            return refuse(REFUSED_WORKS);
        }
        told.copyFrom(trial);
        now.begin(told);
        history.clear();
        telling.forget();
        return told.statements;
    }

    public int fault(int what) {
        switch (what) {
            case 0:
                return reading.fault;
            case 1:
                return reading.place;
            default:
                return NONE;
        }
    }

    public int has(int what) {
        switch (what) {
            case 0:
                return told.coats;
            case 1:
                return told.men;
            case 2:
                return now.year;
            case 3:
                return now.menThere(told.men);
            case 4:
                return Integer.bitCount(now.wornCoats(told.men));
            case 5:
                return Integer.bitCount(now.peggedCoats(told));
            case 6:
                return now.burntCoats(told.coats);
            case 7:
                return toldAsKept();
            case 8:
                return telling.rowCount;
            case 9:
                return history.count;
            case 10:
                return drawn;
            default:
                return NONE;
        }
    }

    public int letter(int kind, int which, int k) {
        if (k < 0 || k >= NAME_LENGTH) {
            return NONE;
        }
        if (kind == 0 && isCoat(which)) {
            return letterOf(told.coatName[which], k);
        }
        if (kind == 1 && isMan(which)) {
            return letterOf(told.manName[which], k);
        }
        return NONE;
    }

    public int coat(int coat, int what) {
        if (!isCoat(coat)) {
            return NONE;
        }
        switch (what) {
            case 0:
                return told.coatSize[coat];
            case 1:
                return told.coatPay[coat];
            case 2:
                return now.lining[coat];
            case 3:
                return now.burnt[coat] ? 1 : 0;
            case 4:
                return now.wearer(coat, told.men);
            default:
                return NONE;
        }
    }

    public int man(int man, int what) {
        if (!isMan(man)) {
            return NONE;
        }
        switch (what) {
            case 0:
                return now.size[man];
            case 1:
                return now.age[man];
            case 2:
                return now.worn[man];
            case 3:
                return now.purse[man];
            case 4:
                return now.there[man] ? 1 : 0;
            default:
                return NONE;
        }
    }

    public long warms(int man, int coat) {
        if (!isMan(man) || !isCoat(coat)) {
            return NOTHING;
        }
        return told.warmth(now.size[man], now.age[man], now.year, coat, now.lining[coat]);
    }

    // ---- ahead

    public int later(int man, int n) {
        if (!isMan(man) || !canCome(n, 0, MOST_AHEAD)) {
            return NONE;
        }
        lookAhead(n);
        return ahead.worn[man];
    }

    public int purse(int man, int n) {
        if (!isMan(man) || !canCome(n, 0, MOST_AHEAD)) {
            return NONE;
        }
        lookAhead(n);
        return ahead.purse[man];
    }

    public int goes(int man) {
        if (!isThere(man)) {
            return NONE;
        }
        ahead.copyFrom(now);
        for (int k = 0; k < MOST_AHEAD && ahead.year < LAST_YEAR; k++) {
            course.oneYear(ahead, NONE);
            if (!ahead.there[man]) {
                return k;
            }
        }
        return NONE;
    }

    // ---- coats for men

    public int match(int man) {
        if (man != NONE && !isThere(man)) {
            return NONE;
        }
        matching.weigh(now);
        return man == NONE ? matching.greatest() : matching.coatFor(man);
    }

    public int glad(int what) {
        if (what < 0 || what > 2) {
            return NONE;
        }
        int pairs = 0;
        int first = NONE;
        int second = NONE;
        for (int one = 0; one < told.men; one++) {
            for (int other = one + 1; other < told.men; other++) {
                if (!wouldGladlyChange(one, other)) {
                    continue;
                }
                if (pairs == 0) {
                    first = one;
                    second = other;
                }
                pairs++;
            }
        }
        return what == 0 ? pairs : what == 1 ? first : second;
    }

    public int passes(int man, int coat, int k) {
        if (!isThere(man) || !isCoat(coat) || k < NONE || k >= MOST_PASSES) {
            return NONE;
        }
        int count = passing.fewest(now, man, coat);
        if (k == NONE) {
            return count;
        }
        return k < count ? passing.pairs[k] : NONE;
    }

    public int waits(int man, int n) {
        if (!isThere(man) || now.worn[man] != NONE || !canCome(n, 1, MOST_WAIT)) {
            return NONE;
        }
        int best = NONE;
        int fullest = NONE;
        waiting.copyFrom(now);
        for (int wait = 0; wait <= n; wait++) {
            if (wait > 0) {
                course.oneYear(waiting, man);
            }
            ahead.copyFrom(waiting);
            for (int k = wait; k < n; k++) {
                course.oneYear(ahead, NONE);
            }
            if (ahead.purse[man] > fullest) {
                fullest = ahead.purse[man];
                best = wait;
            }
        }
        return best;
    }

    public int called(int size, int age) {
        if (size < 1 || size > MOST_SIZE || age < 0 || age > MOST_AGE) {
            return NONE;
        }
        return course.warmest(now, size, age, now.peggedCoats(told));
    }

    // ---- who had it

    public int see() {
        boolean taken = telling.take(tape);
        tape.clear();
        return taken ? telling.rowCount : refuse(REFUSED_READING);
    }

    public int had(int man) {
        if (!isThere(man)) {
            return NONE;
        }
        telling.gather(now, man, telling.latestRow());
        return telling.left;
    }

    public int tells(int man, int what) {
        if (!isThere(man) || what < 0 || what > 2) {
            return NONE;
        }
        telling.gather(now, man, MOST_SEEN_YEARS);
        telling.choose();
        switch (what) {
            case 0:
                return telling.bestYears;
            case 1:
                return telling.bestMan;
            default:
                return telling.bestMost;
        }
    }

    // ---- acts

    public int years(int n) {
        if (!canCome(n, 1, MOST_AHEAD)) {
            return refuse(REFUSED_YEARS);
        }
        history.save(now);
        int count = 0;
        for (int k = 0; k < n; k++) {
            keepOneYear();
            count += course.putOn;
        }
        return count;
    }

    public int chance(int n) {
        if (!canCome(n, 1, MOST_AHEAD)) {
            return refuse(REFUSED_YEARS);
        }
        history.save(now);
        int count = 0;
        for (int k = 0; k < n; k++) {
            if (burnsOne()) {
                count++;
            }
            keepOneYear();
        }
        return count;
    }

    public boolean pass(int one, int other) {
        if (one == other || !isThere(one) || !isThere(other)) {
            return deny(REFUSED_CHANGE);
        }
        if (now.worn[one] == NONE && now.worn[other] == NONE) {
            return deny(REFUSED_CHANGE);
        }
        history.save(now);
        now.change(one, other);
        return true;
    }

    public boolean put(int man, int coat) {
        if (!isThere(man) || now.worn[man] != NONE || !isCoat(coat) || !isPegged(coat)) {
            return deny(REFUSED_CHANGE);
        }
        history.save(now);
        now.dress(man, coat);
        return true;
    }

    public boolean hang(int man) {
        if (!isMan(man) || now.worn[man] == NONE) {
            return deny(REFUSED_CHANGE);
        }
        history.save(now);
        now.worn[man] = NONE;
        return true;
    }

    public boolean undo() {
        return history.takeBack(now) || deny(REFUSED_UNDO);
    }

    public boolean seed(int seed) {
        if (seed < 0) {
            return deny(REFUSED_READING);
        }
        drawn = seed;
        return true;
    }

    public int kept(int k, int what) {
        int count = toldAsKept();
        if (k < 0 || k >= count) {
            return NONE;
        }
        int entry = log[now.keptYears - count + k];
        switch (what) {
            case 0:
                return entry >> 6;
            case 1:
                return entry >> 3 & 7;
            case 2:
                return entry & 7;
            default:
                return NONE;
        }
    }

    // ---- images, refusals

    public int image() {
        picture.draw(now);
        return picture.length;
    }

    public int octet(int k) {
        return k < 0 || k >= picture.length ? NONE : picture.bytes[k];
    }

    public boolean on() {
        boolean fits = picture.readInto(ahead, tape);
        tape.clear();
        if (!fits) {
            return deny(REFUSED_READING);
        }
        now.copyFrom(ahead);
        history.clear();
        return true;
    }

    public int status(int what) {
        return what < 0 || what >= REFUSED_KINDS ? NONE : refusals[what];
    }

    private int refuse(int kind) {
        refusals[kind]++;
        return NONE;
    }

    private boolean deny(int kind) {
        refusals[kind]++;
        return false;
    }

    private boolean isCoat(int coat) {
        return coat >= 0 && coat < told.coats;
    }

    private boolean isMan(int man) {
        return man >= 0 && man < told.men;
    }

    private boolean isThere(int man) {
        return isMan(man) && now.there[man];
    }

    private boolean isPegged(int coat) {
        return !now.burnt[coat] && now.wearer(coat, told.men) == NONE;
    }

    /** Whether n years, of the least and the most that may be asked, can come from now on. */
    private boolean canCome(int n, int least, int most) {
        return n >= least && n <= most && now.year + n <= LAST_YEAR;
    }

    private void lookAhead(int n) {
        ahead.copyFrom(now);
        for (int k = 0; k < n; k++) {
            course.oneYear(ahead, NONE);
        }
    }

    private boolean wouldGladlyChange(int one, int other) {
        if (!now.there[one] || !now.there[other] || now.worn[one] == NONE || now.worn[other] == NONE) {
            return false;
        }
        return warmer(one, now.worn[other], now.worn[one]) && warmer(other, now.worn[one], now.worn[other]);
    }

    private boolean warmer(int man, int coat, int than) {
        return warms(man, coat) > warms(man, than);
    }

    private int toldAsKept() {
        return Math.min(now.keptYears, MOST_TOLD);
    }

    private void keepOneYear() {
        int year = now.year;
        course.oneYear(now, NONE);
        if (now.keptYears < log.length) {
            // undoing takes keptYears back, so that what stands below it is never written over
            log[now.keptYears] = year << 6 | course.putOn << 3 | course.went;
            now.keptYears++;
        }
    }

    private boolean burnsOne() {
        if (draw(HUNDRED) >= told.fire || told.coats == 0) {
            return false;
        }
        int coat = draw(told.coats);
        if (now.burnt[coat]) {
            return false;
        }
        now.burn(coat, told.men);
        return true;
    }

    private int draw(int m) {
        drawn = (int) ((1103515245L * drawn + 12345L) & 0x7fffffffL);
        return m < 1 ? 0 : drawn / 64 % m;
    }

    /** A name is held as six places of five bits, the first letter highest, 0 behind the last one. */
    private static int letterOf(int name, int k) {
        return name >> 5 * (NAME_LENGTH - 1 - k) & 31;
    }

    /** The bytes that have come and have not been read. */
    private static final class Tape {
        private final int[] bytes = new int[TAPE_LENGTH];
        private int length = 0;

        boolean hasRoom(int more) {
            return length + more <= bytes.length;
        }

        void add(int number) {
            for (int shift = 24; shift >= 0 && length < bytes.length; shift -= 8) {
                bytes[length] = number >> shift & 255;
                length++;
            }
        }

        boolean cut(int n) {
            if (n < 0 || n > length) {
                return false;
            }
            length = n;
            return true;
        }

        void clear() {
            length = 0;
        }

        int at(int k) {
            return k < 0 || k >= length ? NONE : bytes[k];
        }
    }

    /** What a text tells: the coats, the men, who wears what at first, and the three programs. */
    private static final class Works {
        private static final int LIMIT = 1000000;
        private static final int WARMTH_WITHOUT = 10;
        /** Places below the stack, so that an operand's place is always one. */
        private static final int UNDER = 3;
        private static final int DEPTH = 128;

        private final int[] coatName = new int[MOST_COATS];
        private final int[] coatSize = new int[MOST_COATS];
        private final int[] coatPay = new int[MOST_COATS];
        private final int[] manName = new int[MOST_MEN];
        private final int[] manSize = new int[MOST_MEN];
        private final int[] manAge = new int[MOST_MEN];
        private final int[] manCoat = new int[MOST_MEN];
        private final int[] code = new int[TAPE_LENGTH];
        private final int[] from = new int[PROGRAMS];
        private final int[] to = new int[PROGRAMS];
        private final int[] values = new int[CODE_VALUES - CODE_WORDS];
        private final int[] stack = new int[DEPTH];
        private int coats = 0;
        private int men = 0;
        private int codes = 0;
        private int fire = 0;
        private int statements = 0;

        void clear() {
            for (int k = 0; k < PROGRAMS; k++) {
                from[k] = 0;
                to[k] = 0;
            }
            coats = 0;
            men = 0;
            codes = 0;
            fire = 0;
            statements = 0;
        }

        void copyFrom(Works other) {
            System.arraycopy(other.coatName, 0, coatName, 0, MOST_COATS);
            System.arraycopy(other.coatSize, 0, coatSize, 0, MOST_COATS);
            System.arraycopy(other.coatPay, 0, coatPay, 0, MOST_COATS);
            System.arraycopy(other.manName, 0, manName, 0, MOST_MEN);
            System.arraycopy(other.manSize, 0, manSize, 0, MOST_MEN);
            System.arraycopy(other.manAge, 0, manAge, 0, MOST_MEN);
            System.arraycopy(other.manCoat, 0, manCoat, 0, MOST_MEN);
            System.arraycopy(other.code, 0, code, 0, other.codes);
            System.arraycopy(other.from, 0, from, 0, PROGRAMS);
            System.arraycopy(other.to, 0, to, 0, PROGRAMS);
            coats = other.coats;
            men = other.men;
            codes = other.codes;
            fire = other.fire;
            statements = other.statements;
        }

        /** Each program has one code at least, so an empty one was never told. */
        boolean hasProgram(int program) {
            return to[program] > from[program];
        }

        int coatNamed(int name) {
            for (int k = 0; k < coats; k++) {
                if (coatName[k] == name) {
                    return k;
                }
            }
            return NONE;
        }

        int manNamed(int name) {
            for (int k = 0; k < men; k++) {
                if (manName[k] == name) {
                    return k;
                }
            }
            return NONE;
        }

        int firstWearer(int coat) {
            for (int k = 0; k < men; k++) {
                if (manCoat[k] == coat) {
                    return k;
                }
            }
            return NONE;
        }

        int warmth(int size, int age, int year, int coat, int lining) {
            if (coat < 0 || coat >= coats) {
                return 0;
            }
            if (!hasProgram(PROGRAM_WARMS)) {
                return WARMTH_WITHOUT - Math.abs(size - coatSize[coat]);
            }
            values[WORD_SIZE] = size;
            values[WORD_AGE] = age;
            values[WORD_YEAR] = year;
            values[WORD_COAT] = coatSize[coat];
            values[WORD_PAY] = coatPay[coat];
            values[WORD_LINING] = lining;
            return result(PROGRAM_WARMS);
        }

        int grownSize(int size, int age, int year) {
            if (!hasProgram(PROGRAM_GROWS)) {
                return size;
            }
            values[WORD_SIZE] = size;
            values[WORD_AGE] = age;
            values[WORD_YEAR] = year;
            return Math.max(1, Math.min(MOST_SIZE, result(PROGRAM_GROWS)));
        }

        boolean isLeaving(State state, int man) {
            if (!hasProgram(PROGRAM_LEAVES)) {
                return false;
            }
            values[WORD_SIZE] = state.size[man];
            values[WORD_AGE] = state.age[man];
            values[WORD_YEAR] = state.year;
            values[WORD_PURSE] = state.purse[man];
            values[WORD_COATED] = state.worn[man] == NONE ? 0 : 1;
            return result(PROGRAM_LEAVES) != 0;
        }

        /** Nothing in a program changes anything, so both ends of an if are worked out and one taken. */
        private int result(int program) {
            int top = UNDER;
            int end = to[program];
            for (int k = from[program]; k < end && top >= UNDER && top < DEPTH; k++) {
                int what = code[k];
                if (what > CODE_WORDS) {
                    stack[top] = what >= 0 ? what : values[CODE_VALUES - what];
                    top++;
                } else if (what == CODE_NOT) {
                    stack[top - 1] = 1 - stack[top - 1];
                } else if (what == CODE_IF) {
                    top -= 2;
                    stack[top - 1] = stack[top - 1] != 0 ? stack[top] : stack[top + 1];
                } else {
                    top--;
                    stack[top - 1] = combined(what, stack[top - 1], stack[top]);
                }
            }
            return top > UNDER ? stack[top - 1] : 0;
        }

        private static int combined(int what, int a, int b) {
            long number = 0;
            switch (what) {
                case CODE_PLUS:
                    number = (long) a + b;
                    break;
                case CODE_MINUS:
                    number = (long) a - b;
                    break;
                case CODE_TIMES:
                    number = (long) a * b;
                    break;
                case CODE_OVER:
                    number = b == 0 ? 0 : a % b != 0 && a < 0 != b < 0 ? a / b - 1 : a / b;
                    break;
                case CODE_REST:
                    number = b == 0 ? 0 : a % b != 0 && a < 0 != b < 0 ? a % b + b : a % b;
                    break;
                case CODE_BELOW:
                    number = a < b ? 1 : 0;
                    break;
                case CODE_ABOVE:
                    number = a > b ? 1 : 0;
                    break;
                case CODE_LIKE:
                    number = a == b ? 1 : 0;
                    break;
                case CODE_MIN:
                case CODE_AND:
                    number = a < b ? a : b;
                    break;
                case CODE_MAX:
                case CODE_OR:
                    number = a > b ? a : b;
                    break;
                default:
                    break;
            }
            return number > LIMIT ? LIMIT : number < -LIMIT ? -LIMIT : (int) number;
        }
    }

    /** Cuts the tape into words, numbers and signs, one at a time. */
    private static final class Scanner {
        private static final int END = 0;
        private static final int WORD = 1;
        private static final int NUMBER = 2;
        private static final int SIGN = 3;
        private static final int WRONG = 4;

        private final Tape tape;
        private final int[] ownWords = new int[WORD_COUNT];
        private int kind = END;
        private int value = 0;
        private int word = NONE;
        private int start = 0;
        /** Where the fault is if this piece can't stand here. */
        private int place = 0;
        private int next = 0;

        Scanner(Tape tape) {
            this.tape = tape;
            for (int k = 0; k < WORD_COUNT; k++) {
                int name = 0;
                for (int i = 0; i < NAME_LENGTH; i++) {
                    char c = OWN_WORDS.charAt(k * NAME_LENGTH + i);
                    name = name << 5 | (c == ' ' ? 0 : c - 'a' + 1);
                }
                ownWords[k] = name;
            }
        }

        void begin() {
            kind = SIGN;
            next = 0;
            advance();
        }

        void advance() {
            int behind = next;
            while (next < tape.length && isBlank(tape.at(next))) {
                next++;
            }
            boolean joined = next == behind && (kind == WORD || kind == NUMBER);
            start = next;
            place = next;
            word = NONE;
            value = tape.at(next);
            kind = kindOf(value);
            if (kind != WORD && kind != NUMBER) {
                next++;
                return;
            }
            int most = kind == WORD ? NAME_LENGTH : NUMBER_LENGTH;
            value = 0;
            while (next < tape.length && next - start <= most && kindOf(tape.at(next)) == kind) {
                value = kind == WORD ? value << 5 | tape.at(next) - 'a' + 1 : value * 10 + tape.at(next) - '0';
                next++;
            }
            int length = next - start;
            if (joined || length > most) {
                place = joined ? start : start + most;
                kind = WRONG;
            } else if (kind == WORD) {
                value <<= 5 * (NAME_LENGTH - length);
                word = ownWord(value);
            }
        }

        private int ownWord(int name) {
            for (int k = 0; k < WORD_COUNT; k++) {
                if (ownWords[k] == name) {
                    return k;
                }
            }
            return NONE;
        }

        boolean isSign(char sign) {
            return kind == SIGN && value == sign;
        }

        private static boolean isBlank(int b) {
            return b == 10 || b == 32;
        }

        private static int kindOf(int b) {
            if (b == NONE) {
                return END;
            }
            if (b >= 'a' && b <= 'z') {
                return WORD;
            }
            return b >= '0' && b <= '9' ? NUMBER : SIGN;
        }
    }

    /**
     * Reads a works from the tape into a trial one. The first fault stays; behind it nothing more is taken, so that
     * every method ends soon.
     */
    private static final class Reading {
        private final Scanner scan;
        private final Works works;
        private int fault = 0;
        private int place = NONE;
        private int open = 0;
        private int program = PROGRAM_WARMS;

        Reading(Tape tape, Works works) {
            scan = new Scanner(tape);
            this.works = works;
        }

        boolean failed() {
            return fault != 0;
        }

        void readAll() {
            works.clear();
            fault = 0;
            place = NONE;
            open = 0;
            scan.begin();
            for (int k = 0; k <= MOST_STATEMENTS && !failed() && scan.kind != Scanner.END; k++) {
                readStatement();
            }
        }

        private void readStatement() {
            if (works.statements >= MOST_STATEMENTS) {
                fail(FAULT_TOO_MANY, scan.start);
                return;
            }
            switch (scan.word) {
                case WORD_COAT:
                    readCoat();
                    break;
                case WORD_MAN:
                    readMan();
                    break;
                case WORD_WEARS:
                    readWears();
                    break;
                case WORD_WARMS:
                    readProgram(PROGRAM_WARMS);
                    break;
                case WORD_GROWS:
                    readProgram(PROGRAM_GROWS);
                    break;
                case WORD_LEAVES:
                    readProgram(PROGRAM_LEAVES);
                    break;
                case WORD_FIRE:
                    scan.advance();
                    works.fire = takeNumber(0, HUNDRED);
                    break;
                default:
                    failHere();
                    break;
            }
            takeSign(';');
            works.statements++;
        }

        private void readCoat() {
            int coat = works.coats;
            if (coat >= MOST_COATS) {
                fail(FAULT_TOO_MANY, scan.start);
                return;
            }
            scan.advance();
            works.coatName[coat] = takeNewName();
            takeWord(WORD_SIZE);
            works.coatSize[coat] = takeNumber(1, MOST_SIZE);
            takeWord(WORD_PAY);
            works.coatPay[coat] = takeNumber(0, MOST_PAY);
            works.coats++;
        }

        private void readMan() {
            int man = works.men;
            if (man >= MOST_MEN) {
                fail(FAULT_TOO_MANY, scan.start);
                return;
            }
            scan.advance();
            works.manName[man] = takeNewName();
            takeWord(WORD_SIZE);
            works.manSize[man] = takeNumber(1, MOST_SIZE);
            takeWord(WORD_AGE);
            works.manAge[man] = takeNumber(0, MOST_AGE);
            works.manCoat[man] = NONE;
            works.men++;
        }

        private void readWears() {
            scan.advance();
            int man = works.manNamed(peekName());
            if (man == NONE || works.manCoat[man] != NONE) {
                fail(FAULT_NAME_UNFIT, scan.start);
                return;
            }
            scan.advance();
            takeWord(WORD_OF);
            int coat = works.coatNamed(peekName());
            if (coat == NONE || works.firstWearer(coat) != NONE) {
                fail(FAULT_NAME_UNFIT, scan.start);
                return;
            }
            scan.advance();
            works.manCoat[man] = coat;
        }

        private void readProgram(int which) {
            if (works.hasProgram(which)) {
                fail(FAULT_TOO_MANY, scan.start);
                return;
            }
            scan.advance();
            program = which;
            works.from[which] = works.codes;
            if (which == PROGRAM_LEAVES) {
                readTest();
            } else {
                readSum();
            }
            works.to[which] = works.codes;
        }

        private void readTest() {
            readBoth();
            for (int k = 0; k < TAPE_LENGTH && !failed() && scan.word == WORD_OR; k++) {
                scan.advance();
                readBoth();
                emit(CODE_OR);
            }
        }

        private void readBoth() {
            readFact();
            for (int k = 0; k < TAPE_LENGTH && !failed() && scan.word == WORD_AND; k++) {
                scan.advance();
                readFact();
                emit(CODE_AND);
            }
        }

        private void readFact() {
            if (failed()) {
                return;
            }
            if (scan.word == WORD_NOT) {
                if (opens()) {
                    readFact();
                    open--;
                    emit(CODE_NOT);
                }
            } else if (scan.isSign('[')) {
                if (opens()) {
                    readTest();
                    takeSign(']');
                    open--;
                }
            } else if (scan.word == WORD_ALL) {
                scan.advance();
                emit(1);
            } else {
                readComparison();
            }
        }

        private void readComparison() {
            readSum();
            if (!scan.isSign('<') && !scan.isSign('>') && !scan.isSign('=')) {
                failHere();
                return;
            }
            int code = CODE_SIGNS - scan.value;
            scan.advance();
            readSum();
            emit(code);
        }

        private void readSum() {
            readProduct();
            for (int k = 0; k < TAPE_LENGTH && !failed() && (scan.isSign('+') || scan.isSign('-')); k++) {
                int code = CODE_SIGNS - scan.value;
                scan.advance();
                readProduct();
                emit(code);
            }
        }

        private void readProduct() {
            readPart();
            for (int k = 0; k < TAPE_LENGTH && !failed() && atProductSign(); k++) {
                int code = CODE_SIGNS - scan.value;
                scan.advance();
                readPart();
                emit(code);
            }
        }

        private boolean atProductSign() {
            return scan.isSign('*') || scan.isSign('/') || scan.isSign('%');
        }

        private void readPart() {
            if (failed()) {
                return;
            }
            if (scan.kind == Scanner.NUMBER) {
                emit(scan.value);
                scan.advance();
            } else if (scan.isSign('(')) {
                if (opens()) {
                    readSum();
                    takeSign(')');
                    open--;
                }
            } else if (scan.word == WORD_MIN || scan.word == WORD_MAX || scan.word == WORD_IF) {
                readChoice(scan.word);
            } else if (isValue(scan.word)) {
                emit(CODE_VALUES - scan.word);
                scan.advance();
            } else {
                failHere();
            }
        }

        private void readChoice(int word) {
            scan.advance();
            if (!scan.isSign('(')) {
                failHere();
                return;
            }
            if (!opens()) {
                return;
            }
            if (word == WORD_IF) {
                readTest();
                takeSign(',');
            }
            readSum();
            takeSign(',');
            readSum();
            takeSign(')');
            open--;
            emit(CODE_WORDS - word);
        }

        private boolean isValue(int word) {
            switch (word) {
                case WORD_SIZE:
                case WORD_AGE:
                case WORD_YEAR:
                    return true;
                case WORD_COAT:
                case WORD_PAY:
                case WORD_LINING:
                    return program == PROGRAM_WARMS;
                case WORD_PURSE:
                case WORD_COATED:
                    return program == PROGRAM_LEAVES;
                default:
                    return false;
            }
        }

        private boolean opens() {
            if (open >= MOST_OPEN) {
                fail(FAULT_OPEN, scan.start);
                return false;
            }
            open++;
            scan.advance();
            return true;
        }

        private void emit(int code) {
            if (works.codes < works.code.length) {
                works.code[works.codes] = code;
                works.codes++;
            }
        }

        private int takeNewName() {
            int name = peekName();
            if (works.coatNamed(name) != NONE || works.manNamed(name) != NONE) {
                fail(FAULT_NAME_TAKEN, scan.start);
            }
            scan.advance();
            return name;
        }

        /** The name that stands here, 0 (which is no name) when none does. */
        private int peekName() {
            if (failed() || scan.kind != Scanner.WORD || scan.word != NONE) {
                failHere();
                return 0;
            }
            return scan.value;
        }

        private int takeNumber(int least, int most) {
            if (failed() || scan.kind != Scanner.NUMBER) {
                failHere();
                return 0;
            }
            if (scan.value < least || scan.value > most) {
                fail(FAULT_NUMBER, scan.start);
            }
            int number = scan.value;
            scan.advance();
            return number;
        }

        private void takeWord(int word) {
            if (failed() || scan.word != word) {
                failHere();
                return;
            }
            scan.advance();
        }

        private void takeSign(char sign) {
            if (failed() || !scan.isSign(sign)) {
                failHere();
                return;
            }
            scan.advance();
        }

        private void failHere() {
            fail(FAULT_GRAMMAR, scan.place);
        }

        private void fail(int kind, int at) {
            if (fault == 0) {
                fault = kind;
                place = at;
            }
        }
    }

    /** How all stands: the year, the coats, the men, and how many years are kept. */
    private static final class State {
        private final int[] lining = new int[MOST_COATS];
        private final boolean[] burnt = new boolean[MOST_COATS];
        private final int[] size = new int[MOST_MEN];
        private final int[] age = new int[MOST_MEN];
        private final int[] worn = new int[MOST_MEN];
        private final int[] purse = new int[MOST_MEN];
        private final boolean[] there = new boolean[MOST_MEN];
        private int year = 0;
        private int keptYears = 0;

        void begin(Works works) {
            year = 0;
            keptYears = 0;
            for (int coat = 0; coat < works.coats; coat++) {
                burnt[coat] = false;
                lining[coat] = works.firstWearer(coat) == NONE ? 0 : 1;
            }
            for (int man = 0; man < works.men; man++) {
                size[man] = works.manSize[man];
                age[man] = works.manAge[man];
                worn[man] = works.manCoat[man];
                purse[man] = 0;
                there[man] = true;
            }
        }

        void copyFrom(State other) {
            System.arraycopy(other.lining, 0, lining, 0, MOST_COATS);
            for (int coat = 0; coat < MOST_COATS; coat++) {
                burnt[coat] = other.burnt[coat];
            }
            System.arraycopy(other.size, 0, size, 0, MOST_MEN);
            System.arraycopy(other.age, 0, age, 0, MOST_MEN);
            System.arraycopy(other.worn, 0, worn, 0, MOST_MEN);
            System.arraycopy(other.purse, 0, purse, 0, MOST_MEN);
            for (int man = 0; man < MOST_MEN; man++) {
                there[man] = other.there[man];
            }
            year = other.year;
            keptYears = other.keptYears;
        }

        int wearer(int coat, int men) {
            for (int man = 0; man < men; man++) {
                if (worn[man] == coat) {
                    return man;
                }
            }
            return NONE;
        }

        int menThere(int men) {
            int count = 0;
            for (int man = 0; man < men; man++) {
                if (there[man]) {
                    count++;
                }
            }
            return count;
        }

        int burntCoats(int coats) {
            int count = 0;
            for (int coat = 0; coat < coats; coat++) {
                if (burnt[coat]) {
                    count++;
                }
            }
            return count;
        }

        /** The coats that are on men, a bit each. */
        int wornCoats(int men) {
            int bits = 0;
            for (int man = 0; man < men; man++) {
                if (worn[man] != NONE) {
                    bits |= 1 << worn[man];
                }
            }
            return bits;
        }

        /** The coats on their pegs, a bit each. */
        int peggedCoats(Works works) {
            int bits = 0;
            for (int coat = 0; coat < works.coats; coat++) {
                if (!burnt[coat]) {
                    bits |= 1 << coat;
                }
            }
            return bits & ~wornCoats(works.men);
        }

        void dress(int man, int coat) {
            worn[man] = coat;
            if (coat != NONE && lining[coat] < MOST_LINING) {
                lining[coat]++;
            }
        }

        void change(int one, int other) {
            int coat = worn[one];
            dress(one, worn[other]);
            dress(other, coat);
        }

        void burn(int coat, int men) {
            burnt[coat] = true;
            int man = wearer(coat, men);
            if (man != NONE) {
                worn[man] = NONE;
            }
        }
    }

    /** Lets years go by. */
    private static final class Course {
        private final Works works;
        private int putOn = 0;
        private int went = 0;

        Course(Works works) {
            this.works = works;
        }

        /** One year without draws, in which the waiter (a man or NONE) puts on no coat. */
        void oneYear(State state, int waiter) {
            growAll(state);
            leaveAll(state);
            dressAll(state, waiter);
            payAll(state);
            if (state.year < LAST_YEAR) {
                state.year++;
            }
        }

        private void growAll(State state) {
            for (int man = 0; man < works.men; man++) {
                if (state.there[man]) {
                    state.size[man] = works.grownSize(state.size[man], state.age[man], state.year);
                    state.age[man] = Math.min(MOST_AGE, state.age[man] + 1);
                }
            }
        }

        private void leaveAll(State state) {
            went = 0;
            for (int man = 0; man < works.men; man++) {
                if (state.there[man] && works.isLeaving(state, man)) {
                    state.there[man] = false;
                    state.worn[man] = NONE;
                    went++;
                }
            }
        }

        private void dressAll(State state, int waiter) {
            putOn = 0;
            int pegged = state.peggedCoats(works);
            for (int man = 0; man < works.men; man++) {
                if (!state.there[man] || state.worn[man] != NONE || man == waiter) {
                    continue;
                }
                int coat = warmest(state, state.size[man], state.age[man], pegged);
                if (coat != NONE) {
                    state.dress(man, coat);
                    pegged &= ~(1 << coat);
                    putOn++;
                }
            }
        }

        private void payAll(State state) {
            for (int man = 0; man < works.men; man++) {
                int coat = state.worn[man];
                if (coat != NONE) {
                    state.purse[man] = Math.min(MOST_PURSE, state.purse[man] + works.coatPay[coat]);
                }
            }
        }

        /** Of the coats told by bits the first that warms most, above 0, one of a size and an age. */
        int warmest(State state, int size, int age, int coats) {
            int best = NONE;
            int most = 0;
            for (int coat = 0; coat < works.coats; coat++) {
                if ((coats >> coat & 1) == 0) {
                    continue;
                }
                int warmth = works.warmth(size, age, state.year, coat, state.lining[coat]);
                if (warmth > most) {
                    most = warmth;
                    best = coat;
                }
            }
            return best;
        }
    }

    /** How all stood ahead of the latest acts, as a ring. */
    private static final class History {
        private final State[] states = new State[MOST_UNDONE];
        private int count = 0;
        private int next = 0;

        History() {
            for (int k = 0; k < MOST_UNDONE; k++) {
                states[k] = new State();
            }
        }

        void clear() {
            count = 0;
        }

        void save(State state) {
            states[next].copyFrom(state);
            next = (next + 1) % MOST_UNDONE;
            count = Math.min(MOST_UNDONE, count + 1);
        }

        boolean takeBack(State state) {
            if (count == 0) {
                return false;
            }
            next = (next + MOST_UNDONE - 1) % MOST_UNDONE;
            count--;
            state.copyFrom(states[next]);
            return true;
        }
    }

    /** The coats by which all are warmest together. */
    private static final class Matching {
        private static final int SETS = 1 << MOST_COATS;

        private final Works works;
        /** How much a coat warms a man, 0 where he can't have it. */
        private final int[][] gain = new int[MOST_MEN][MOST_COATS];
        /** The greatest sum for the men from one on when a set of coats is gone. */
        private final int[][] best = new int[MOST_MEN + 1][SETS];

        Matching(Works works) {
            this.works = works;
        }

        void weigh(State state) {
            for (int man = 0; man < works.men; man++) {
                for (int coat = 0; coat < works.coats; coat++) {
                    gain[man][coat] = 0;
                    if (state.there[man] && !state.burnt[coat]) {
                        int warmth = works.warmth(state.size[man], state.age[man], state.year, coat, state.lining[coat]);
                        gain[man][coat] = Math.max(0, warmth);
                    }
                }
            }
            int sets = 1 << works.coats;
            for (int set = 0; set < sets; set++) {
                best[works.men][set] = 0;
            }
            for (int man = works.men - 1; man >= 0; man--) {
                for (int set = 0; set < sets; set++) {
                    // the men ahead of this one can't have taken more coats than they are
                    if (Integer.bitCount(set) <= man) {
                        best[man][set] = bestFrom(man, set);
                    }
                }
            }
        }

        private int bestFrom(int man, int set) {
            int most = best[man + 1][set];
            for (int coat = 0; coat < works.coats; coat++) {
                if (canTake(man, coat, set)) {
                    most = Math.max(most, gain[man][coat] + best[man + 1][set | 1 << coat]);
                }
            }
            return most;
        }

        private boolean canTake(int man, int coat, int set) {
            return gain[man][coat] > 0 && (set >> coat & 1) == 0;
        }

        int greatest() {
            return best[0][0];
        }

        int coatFor(int man) {
            int set = 0;
            int taken = NONE;
            for (int k = 0; k <= man; k++) {
                taken = firstChoice(k, set);
                if (taken != NONE) {
                    set |= 1 << taken;
                }
            }
            return taken;
        }

        private int firstChoice(int man, int set) {
            if (best[man + 1][set] == best[man][set]) {
                return NONE;
            }
            for (int coat = 0; coat < works.coats; coat++) {
                if (canTake(man, coat, set) && gain[man][coat] + best[man + 1][set | 1 << coat] == best[man][set]) {
                    return coat;
                }
            }
            return NONE;
        }
    }

    /** The fewest changes by which a man comes to a coat and nobody is colder. */
    private static final class Passing {
        /** Below what any coat warms by. */
        private static final int UNKNOWN = -2000000;
        private static final int LININGS = MOST_PASSES + 1;

        private final Works works;
        private final State scene = new State();
        private final int[] firstLining = new int[MOST_COATS];
        /** By man, coat and how many have put it on since: the same warmths are asked again and again. */
        private final int[] known = new int[MOST_MEN * MOST_COATS * LININGS];
        private final int[] pairs = new int[MOST_PASSES];

        Passing(Works works) {
            this.works = works;
        }

        int fewest(State state, int man, int coat) {
            scene.copyFrom(state);
            if (scene.worn[man] == coat) {
                return 0;
            }
            if (scene.wearer(coat, works.men) == NONE) {
                return NONE;
            }
            System.arraycopy(scene.lining, 0, firstLining, 0, MOST_COATS);
            for (int k = 0; k < known.length; k++) {
                known[k] = UNKNOWN;
            }
            for (int count = 1; count <= MOST_PASSES; count++) {
                if (reaches(man, coat, 0, count)) {
                    return count;
                }
            }
            return NONE;
        }

        /** Tries the changes from number done on, up to count, the last of which must bring the coat. */
        private boolean reaches(int man, int coat, int done, int count) {
            if (done >= count || done >= MOST_PASSES) {
                return false;
            }
            boolean last = done == count - 1;
            for (int one = 0; one < works.men; one++) {
                for (int other = one + 1; other < works.men; other++) {
                    if (last && !brings(man, coat, one, other)) {
                        continue;
                    }
                    if (!nobodyColder(one, other)) {
                        continue;
                    }
                    pairs[done] = PAIR_FACTOR * one + other;
                    if (last || reachesBehind(one, other, man, coat, done, count)) {
                        return true;
                    }
                }
            }
            return false;
        }

        private boolean reachesBehind(int one, int other, int man, int coat, int done, int count) {
            int oneCoat = scene.worn[one];
            int otherCoat = scene.worn[other];
            int oneLining = liningOf(oneCoat);
            int otherLining = liningOf(otherCoat);
            scene.change(one, other);
            boolean found = reaches(man, coat, done + 1, count);
            putBack(one, oneCoat, oneLining);
            putBack(other, otherCoat, otherLining);
            return found;
        }

        private int liningOf(int coat) {
            return coat == NONE ? 0 : scene.lining[coat];
        }

        private void putBack(int man, int coat, int lining) {
            scene.worn[man] = coat;
            if (coat != NONE) {
                scene.lining[coat] = lining;
            }
        }

        private boolean brings(int man, int coat, int one, int other) {
            return one == man && scene.worn[other] == coat || other == man && scene.worn[one] == coat;
        }

        private boolean nobodyColder(int one, int other) {
            int oneCoat = scene.worn[one];
            int otherCoat = scene.worn[other];
            if (!scene.there[one] || !scene.there[other] || oneCoat == NONE && otherCoat == NONE) {
                return false;
            }
            return warmthOf(one, otherCoat, 1) >= warmthOf(one, oneCoat, 0)
                    && warmthOf(other, oneCoat, 1) >= warmthOf(other, otherCoat, 0);
        }

        /** How much a coat warms a man when some more have put it on than now. */
        private int warmthOf(int man, int coat, int more) {
            if (coat == NONE) {
                return 0;
            }
            int lining = Math.min(MOST_LINING, scene.lining[coat] + more);
            int since = lining - firstLining[coat];
            if (since < 0 || since >= LININGS) {
                return works.warmth(scene.size[man], scene.age[man], scene.year, coat, lining);
            }
            int k = (man * MOST_COATS + coat) * LININGS + since;
            if (known[k] == UNKNOWN) {
                known[k] = works.warmth(scene.size[man], scene.age[man], scene.year, coat, lining);
            }
            return known[k];
        }
    }

    /** What a man can have on by who was seen in what, and what would tell most of it. */
    private static final class Telling {
        private static final int CHOICES = MOST_COATS + 1;
        private static final int NO_COAT = MOST_COATS;
        private static final int OUTFIT_BITS = 4;

        private final Works works;
        private final Course course;
        private final State scene = new State();
        private final int[] rows = new int[MOST_ROWS * ROW_LENGTH];
        private int rowCount = 0;
        /** Who wears what, four bits a man, by the choice (0 none, 1 + k coat k) and the years gone by. */
        private final int[][] outfits = new int[CHOICES][MOST_SEEN_YEARS + 1];
        private final int[] counts = new int[CHOICES];
        private int yearsKnown = 0;
        /** The choices that go with all that was seen, a bit each. */
        private int left = 0;
        private int bestYears = NONE;
        private int bestMan = NONE;
        private int bestMost = NONE;

        Telling(Works works, Course course) {
            this.works = works;
            this.course = course;
        }

        void forget() {
            rowCount = 0;
        }

        boolean take(Tape tape) {
            int count = tape.length / ROW_LENGTH;
            if (count < 1 || count > MOST_ROWS || count * ROW_LENGTH != tape.length) {
                return false;
            }
            for (int k = 0; k < count; k++) {
                int coat = tape.at(k * ROW_LENGTH + 2);
                if (tape.at(k * ROW_LENGTH) > MOST_SEEN_YEARS || tape.at(k * ROW_LENGTH + 1) >= works.men) {
                    return false;
                }
                if (coat != BYTE_NO_COAT && coat >= works.coats) {
                    return false;
                }
            }
            for (int k = 0; k < count * ROW_LENGTH; k++) {
                rows[k] = tape.at(k);
            }
            rowCount = count;
            return true;
        }

        int latestRow() {
            int latest = 0;
            for (int k = 0; k < rowCount; k++) {
                latest = Math.max(latest, rows[k * ROW_LENGTH]);
            }
            return latest;
        }

        /** Follows every choice of a man for so many years as the rows need, and finds those that are left. */
        void gather(State state, int man, int years) {
            int choices = choicesOf(state, man);
            yearsKnown = Math.min(Math.min(years, MOST_SEEN_YEARS), LAST_YEAR - state.year);
            left = 0;
            for (int choice = 0; choice < CHOICES; choice++) {
                if ((choices >> choice & 1) == 0) {
                    continue;
                }
                scene.copyFrom(state);
                scene.worn[man] = choice - 1;
                outfits[choice][0] = outfit();
                for (int year = 1; year <= yearsKnown; year++) {
                    course.oneYear(scene, NONE);
                    outfits[choice][year] = outfit();
                }
                if (goesWithRows(choice)) {
                    left |= 1 << choice;
                }
            }
        }

        private int choicesOf(State state, int man) {
            int coats = state.peggedCoats(works);
            if (state.worn[man] != NONE) {
                coats |= 1 << state.worn[man];
            }
            return 1 | coats << 1;
        }

        private int outfit() {
            int bits = 0;
            for (int man = 0; man < works.men; man++) {
                int coat = scene.worn[man] == NONE ? NO_COAT : scene.worn[man];
                bits |= coat << OUTFIT_BITS * man;
            }
            return bits;
        }

        private int coatIn(int choice, int years, int man) {
            return outfits[choice][years] >> OUTFIT_BITS * man & 15;
        }

        private boolean goesWithRows(int choice) {
            for (int k = 0; k < rowCount; k++) {
                int years = rows[k * ROW_LENGTH];
                int coat = rows[k * ROW_LENGTH + 2] == BYTE_NO_COAT ? NO_COAT : rows[k * ROW_LENGTH + 2];
                if (years > yearsKnown || coatIn(choice, years, rows[k * ROW_LENGTH + 1]) != coat) {
                    return false;
                }
            }
            return true;
        }

        /** Behind gather: the year and the man that tell most. */
        void choose() {
            bestYears = NONE;
            bestMan = NONE;
            bestMost = NONE;
            if (left == 0) {
                return;
            }
            for (int years = 1; years <= yearsKnown; years++) {
                for (int man = 0; man < works.men; man++) {
                    int most = mostLeft(years, man);
                    if (bestMost == NONE || most < bestMost) {
                        bestYears = years;
                        bestMan = man;
                        bestMost = most;
                    }
                }
            }
        }

        private int mostLeft(int years, int man) {
            for (int k = 0; k < CHOICES; k++) {
                counts[k] = 0;
            }
            int most = 0;
            for (int choice = 0; choice < CHOICES; choice++) {
                if ((left >> choice & 1) == 0) {
                    continue;
                }
                int coat = coatIn(choice, years, man);
                if (coat < CHOICES) {
                    counts[coat]++;
                    most = Math.max(most, counts[coat]);
                }
            }
            return most;
        }
    }

    /** Images: written for octet(), and read from the tape. */
    private static final class Picture {
        private static final int YEAR_LENGTH = 2;
        private static final int COAT_LENGTH = 2;
        private static final int MAN_LENGTH = 6;
        private static final int FIRST_CHECK = 233;
        private static final int CHECK_FACTOR = 5;
        private static final int CHECK_MODULUS = 251;

        private final Works works;
        private final int[] bytes = new int[YEAR_LENGTH + COAT_LENGTH * MOST_COATS + MAN_LENGTH * MOST_MEN + 1];
        private int length = 0;

        Picture(Works works) {
            this.works = works;
        }

        void draw(State state) {
            length = 0;
            write(state.year >> 8);
            write(state.year & 255);
            for (int coat = 0; coat < works.coats; coat++) {
                write(state.burnt[coat] ? 1 : 0);
                write(state.lining[coat]);
            }
            for (int man = 0; man < works.men; man++) {
                write(state.size[man]);
                write(state.age[man]);
                write(state.worn[man] == NONE ? BYTE_NO_COAT : state.worn[man]);
                write(state.purse[man] >> 8);
                write(state.purse[man] & 255);
                write(state.there[man] ? 1 : 0);
            }
            int check = FIRST_CHECK;
            for (int k = 0; k < length; k++) {
                check = (CHECK_FACTOR * check + bytes[k]) % CHECK_MODULUS;
            }
            write(check);
        }

        private void write(int value) {
            if (length < bytes.length) {
                bytes[length] = value;
                length++;
            }
        }

        /** Whether the tape is an image of this works; if not, what the state holds then is of no use. */
        boolean readInto(State state, Tape tape) {
            int menFrom = YEAR_LENGTH + COAT_LENGTH * works.coats;
            if (tape.length != menFrom + MAN_LENGTH * works.men + 1 || !hasCheck(tape)) {
                return false;
            }
            state.keptYears = 0;
            state.year = tape.at(0) << 8 | tape.at(1);
            if (state.year > LAST_YEAR) {
                return false;
            }
            for (int coat = 0; coat < works.coats; coat++) {
                if (!readsCoat(state, tape, coat, YEAR_LENGTH + COAT_LENGTH * coat)) {
                    return false;
                }
            }
            int wornAlready = 0;
            for (int man = 0; man < works.men; man++) {
                if (!readsMan(state, tape, man, menFrom + MAN_LENGTH * man)) {
                    return false;
                }
                int bit = state.worn[man] == NONE ? 0 : 1 << state.worn[man];
                if ((wornAlready & bit) != 0) {
                    return false;
                }
                wornAlready |= bit;
            }
            return true;
        }

        private static boolean hasCheck(Tape tape) {
            int check = FIRST_CHECK;
            for (int k = 0; k < tape.length - 1; k++) {
                check = (CHECK_FACTOR * check + tape.at(k)) % CHECK_MODULUS;
            }
            return tape.at(tape.length - 1) == check;
        }

        private static boolean readsCoat(State state, Tape tape, int coat, int from) {
            state.burnt[coat] = tape.at(from) == 1;
            state.lining[coat] = tape.at(from + 1);
            return tape.at(from) <= 1 && state.lining[coat] <= MOST_LINING;
        }

        private boolean readsMan(State state, Tape tape, int man, int from) {
            int coat = tape.at(from + 2);
            state.size[man] = tape.at(from);
            state.age[man] = tape.at(from + 1);
            state.worn[man] = coat == BYTE_NO_COAT ? NONE : coat;
            state.purse[man] = tape.at(from + 3) << 8 | tape.at(from + 4);
            state.there[man] = tape.at(from + 5) == 1;
            if (state.size[man] < 1 || state.size[man] > MOST_SIZE || state.age[man] > MOST_AGE) {
                return false;
            }
            if (state.purse[man] > MOST_PURSE || tape.at(from + 5) > 1) {
                return false;
            }
            return coat == BYTE_NO_COAT || coat < works.coats && !state.burnt[coat] && state.there[man];
        }
    }
}
