import java.util.Arrays;

/**
 * A ring of posts with somebody at each, told in a text, from which boys who go round and count
 * send home till so many are left; and what can be asked of such rings.
 */
public final class PostRing {
    public static final int NONE = -1;

    private static final int NO_POST = -2;
    private static final int MOST_BYTES = 1200;
    private static final int FED_BYTES = 20;
    private static final int MOST_POSTS = 60;
    private static final int BOXES = 3;
    private static final int MOST_GOINGS = 1000;
    private static final int MOST_LATE = 300;
    private static final int MOST_COUNTED = 999;
    private static final int MOST_PERSONS = 9;
    private static final int MOST_DRAWN = 12;
    private static final int MOST_UNITS = 40;
    private static final int MOST_DEPTH = 7;
    // Each unit, a joint behind it, and as many nots ahead of it as may stand within one another.
    private static final int MOST_CODES = MOST_UNITS * (2 + MOST_DEPTH);
    private static final int MOST_K = 3000;
    private static final int MOST_STEP = 1000;
    private static final int MOST_SIZE = 5000;
    private static final int MOST_TIME = 100000;
    private static final long MOST_RING = 1000000000000L;

    // Kinds of TOKENS: signs have their own byte, words stand above these; what a count is made
    // of is named by them too.
    private static final int END = 0;
    private static final int BAD = 1;
    private static final int NUMBER = 2;
    private static final int NAME = 3;
    private static final int STAND = 128;
    private static final int BEGIN = 129;
    private static final int LEFT = 130;
    private static final int COUNT = 131;
    private static final int TURN = 132;
    private static final int AGAIN = 133;
    private static final int BOY = 134;
    private static final int GUARD = 135;
    private static final int RHYME = 136;
    private static final int PERSON = 137;
    private static final int DRAWN = 138;
    private static final int TO = 139;
    private static final int WORTH = 140;
    private static final int WEIGHT = 141;
    private static final int OR = 142;
    private static final int AND = 143;
    private static final int NOT = 144;
    private static final int GOING = 145;
    private static final int HERE = 146;
    private static final int LAST = 147;
    private static final int WORDS = 148;
    private static final int SIGNS = 149;

    private final Course now = new Course();
    private final Course[] boxes = new Course[BOXES];
    private final Ahead ahead = new Ahead();
    private final Order told = new Order();
    private final Draws draws = new Draws();
    private final Sights sights = new Sights();
    private Plan plan = new Plan();
    private Plan spare = new Plan();
    private final Reader reader = new Reader(spare);
    private int time;

    public PostRing() {
        for (int box = 0; box < BOXES; box++) {
            boxes[box] = new Course();
        }
        now.startFrom(plan, plan.begin);
    }

    public int feed(int a, int b, int c, int d, int e) {
        Tokens tape = reader.tokens;
        if (tape.length > MOST_BYTES - FED_BYTES) {
            return NONE;
        }
        tape.addFour(a);
        tape.addFour(b);
        tape.addFour(c);
        tape.addFour(d);
        tape.addFour(e);
        return tape.length;
    }

    public int end(int n) {
        Tokens tape = reader.tokens;
        if (n < 0 || n > tape.length) {
            return NONE;
        }
        tape.length = n;
        return n;
    }

    public int ring() {
        boolean faultless = reader.read(spare);
        reader.tokens.length = 0;
        if (!faultless) {
            return NONE;
        }
        Plan read = spare;
        spare = plan;
        plan = read;
        now.startFrom(plan, plan.begin);
        told.length = 0;
        sights.count = 0;
        emptyBoxes();
        return plan.posts;
    }

    public int fault(int what) {
        switch (what) {
            case 0: return reader.fault;
            case 1: return reader.faultPlace;
            default: return NONE;
        }
    }

    public int go(int goings) {
        if (goings < 0 || goings > MOST_GOINGS) {
            return NONE;
        }
        return now.goOn(plan, plan.keep, goings);
    }

    public int post(int post, int what) {
        if (!isPost(post)) {
            return NONE;
        }
        switch (what) {
            case 0: return now.standsAt(post) ? 1 : 0;
            case 1: return now.hits[post];
            case 2: return now.wentIn[post];
            default: return NONE;
        }
    }

    public int went(int i) {
        return i >= 0 && i < now.gone && i < MOST_POSTS ? now.goers[i] : NONE;
    }

    public long left() {
        return ahead.leftOf(plan, now, plan.keep);
    }

    public int when(int post) {
        return isPost(post) ? ahead.goingOf(plan, now, post) : NO_POST;
    }

    public long late(int n) {
        return n < 0 || n > MOST_LATE ? NONE : ahead.goodFor(plan, now, n);
    }

    public int bribe(int post) {
        return isPost(post) ? ahead.bribeFor(plan, now, post) : NO_POST;
    }

    public long stay(int m) {
        return m < 1 || m >= MOST_POSTS ? NONE : ahead.leftOf(plan, now, m);
    }

    public int meet() {
        return ahead.meeting(plan, now);
    }

    public long begins(int post) {
        return isPost(post) ? ahead.beginsFor(plan, post) : NO_POST;
    }

    public int chooses(long set) {
        return isSet(plan.posts, set) ? ahead.choiceFor(plan, set) : NONE;
    }

    public int order(int post) {
        if (post < 0 || post >= MOST_POSTS || told.length >= MOST_POSTS) {
            return NONE;
        }
        told.posts[told.length] = post;
        told.length++;
        return told.length;
    }

    public int keep(int n) {
        if (n < 0 || n > told.length) {
            return NONE;
        }
        told.length = n;
        return n;
    }

    public int judge() {
        return told.firstWrong(ahead.wholeCourse(plan));
    }

    public long far(long n, int k, long m) {
        if (!isLarge(n, k) || m < 1 || m > n) {
            return NONE;
        }
        return Plain.farGoer(n, k, m);
    }

    public long at(long n, int k, long post) {
        if (!isLarge(n, k) || post < 0 || post >= n) {
            return NONE;
        }
        return Plain.placeOf(n, k, post);
    }

    public int size(int k, int post, int i) {
        if (k < 1 || k > MOST_STEP || post < 0 || post >= MOST_SIZE || i < 0) {
            return NONE;
        }
        return Plain.sizeKeeping(k, post, i);
    }

    public int keeps(int n, long set) {
        if (!isPlain(n) || !isSet(n, set)) {
            return NONE;
        }
        return Plain.leastSending(n, Posts.all(n) & ~set);
    }

    public int first(int n, long set) {
        if (!isPlain(n) || !isSet(n, set)) {
            return NONE;
        }
        return Plain.leastSending(n, set);
    }

    public long number(int n) {
        return isPlain(n) ? told.leastNumber(n) : NONE;
    }

    public int guess(int n, int what) {
        if (!isPlain(n) || !isZeroOrOne(what)) {
            return NONE;
        }
        told.tryRules(n);
        return what == 0 ? told.fitting : told.plainest;
    }

    public long never(int n, int m) {
        return isPlain(n) && isStep(m) ? Plain.neverLast(n, m) : NONE;
    }

    public int often(int n, int m, int what) {
        if (!isPlain(n) || !isStep(m) || !isZeroOrOne(what)) {
            return NONE;
        }
        draws.tallyUpTo(n, m);
        int post = draws.heaviest(n, 0L);
        return what == 0 ? post : draws.weightAt(post);
    }

    public int ever(int n) {
        return isPlain(n) ? Plain.leastForAll(n) : NONE;
    }

    public int chance(int n, int post, int part) {
        if (!isPlain(n) || post < 0 || post >= n || !isZeroOrOne(part) || plan.drawn == 0) {
            return NONE;
        }
        draws.tallyDrawn(n, plan);
        return Draws.partOf(draws.weightAt(post), draws.sum, part);
    }

    public int choice(int n, int person) {
        return isChooser(n, person) ? draws.chosenBy(n, plan, person) : NONE;
    }

    public int expected(int n, int person, int part) {
        if (!isChooser(n, person) || !isZeroOrOne(part)) {
            return NONE;
        }
        int post = draws.chosenBy(n, plan, person);
        return Draws.partOf(plan.worths[person] * draws.weightAt(post), draws.sum, part);
    }

    public int sight(int n, int i, int post) {
        if (!isPlain(n) || i < 1 || i > n || post < 0 || post >= n) {
            return NONE;
        }
        return sights.tell(n, i, post, time);
    }

    public boolean untell(int sight) {
        return sights.takeBack(sight, time);
    }

    public int later(int by) {
        if (by < 0 || by > MOST_STEP || by > MOST_TIME - time) {
            return NONE;
        }
        time += by;
        return time;
    }

    public int fits(int what, int k) {
        if (!isZeroOrOne(what)) {
            return NONE;
        }
        sights.sift(k);
        return what == 0 ? sights.fitCount() : sights.leastFit();
    }

    public int ask(int n, int what, int k) {
        if (!isPlain(n) || !isZeroOrOne(what)) {
            return NONE;
        }
        sights.sift(k);
        if (sights.fitCount() == 0) {
            return NONE;
        }
        int i = sights.bestQuestion(n);
        return what == 0 ? i : sights.greatestAt(n, i);
    }

    public int image(int box) {
        Course image = boxAt(box);
        if (image == null) {
            return NONE;
        }
        image.copyFrom(now);
        image.isKept = true;
        return now.goings;
    }

    public int back(int box) {
        Course image = boxAt(box);
        if (image == null || !image.isKept) {
            return NONE;
        }
        now.copyFrom(image);
        return now.goings;
    }

    public int about(int what) {
        switch (what) {
            case 0: return plan.posts;
            case 1: return now.standing();
            case 2: return now.goings;
            case 3: return plan.persons;
            case 4: return plan.drawn;
            case 5: return sights.count;
            case 6: return time;
            case 7: return reader.tokens.length;
            case 8: return told.length;
            case 9: return plan.units;
            case 10: return now.firstAt;
            case 11: return now.secondAt;
            case 12: return now.isTurned(plan) ? 1 : 0;
            default: return NONE;
        }
    }

    private Course boxAt(int box) {
        return box >= 0 && box < BOXES ? boxes[box] : null;
    }

    private void emptyBoxes() {
        for (int box = 0; box < BOXES; box++) {
            Course image = boxes[box];
            if (image != null) {
                image.isKept = false;
            }
        }
    }

    private boolean isPost(int post) {
        return post >= 0 && post < plan.posts && post < MOST_POSTS;
    }

    private boolean isChooser(int n, int person) {
        return isPlain(n) && person >= 0 && person < plan.persons && person < MOST_PERSONS
            && person < n && plan.drawn > 0;
    }

    private static boolean isPlain(int n) {
        return n >= 1 && n <= MOST_POSTS;
    }

    private static boolean isLarge(long n, int k) {
        return n >= 1 && n <= MOST_RING && k >= 1 && k <= MOST_STEP;
    }

    private static boolean isStep(int m) {
        return m >= 1 && m <= MOST_K;
    }

    private static boolean isSet(int n, long set) {
        return set != 0 && (set & ~Posts.all(n)) == 0;
    }

    private static boolean isZeroOrOne(int what) {
        return what == 0 || what == 1;
    }

    /** Posts as the bits of a long, and the ways round them. */
    private static final class Posts {
        private Posts() {
        }

        static long all(int n) {
            return n < 1 ? 0L : n > MOST_POSTS ? -1L : (1L << n) - 1;
        }

        static boolean has(long set, int post) {
            return post >= 0 && post < MOST_POSTS && (set >>> post & 1L) != 0;
        }

        static long bit(int post) {
            return post >= 0 && post < MOST_POSTS ? 1L << post : 0L;
        }

        static int below(long set, int post) {
            return Long.bitCount(set & all(post));
        }

        static int next(int post, int n, boolean up) {
            if (up) {
                return post + 1 < n ? post + 1 : 0;
            }
            return post > 0 ? post - 1 : n - 1;
        }

        /** The post of a set that has just so many others of it below. */
        static int ranked(long set, int rank) {
            long rest = set;
            for (int i = 0; i < rank && i < MOST_POSTS; i++) {
                rest &= rest - 1;
            }
            return rest == 0 ? NONE : Long.numberOfTrailingZeros(rest);
        }

        /** Whom one who looks at a post first comes to as he counts those who stand. */
        static int counted(long stands, int from, boolean up, int count) {
            int standing = Long.bitCount(stands);
            if (standing == 0) {
                return NONE;
            }
            int steps = (count - 1) % standing;
            int rank = up ? below(stands, from) + steps : below(stands, from + 1) - 1 - steps;
            return ranked(stands, Math.floorMod(rank, standing));
        }

        /** How many are counted to higher numbers till one comes to a post. */
        static int countTo(long stands, int from, int post) {
            int standing = Long.bitCount(stands);
            if (standing == 0) {
                return 0;
            }
            return Math.floorMod(below(stands, post) - below(stands, from), standing) + 1;
        }
    }

    /** What the text of a ring tells. */
    private static final class Plan {
        int posts;
        int begin;
        int keep;
        int turn;
        int again;
        int boy;
        long guarded;
        int words;
        int signs;
        int units;
        int persons;
        int drawn;
        final long[] names = new long[MOST_PERSONS];
        final int[] worths = new int[MOST_PERSONS];
        final int[] numbers = new int[MOST_DRAWN];
        final int[] weights = new int[MOST_DRAWN];
        // The count behind its parts (1 2 + for 1 + 2), so that it is made out without recursion:
        // numbers as they are, other TOKENS below 0.
        private final int[] code = new int[MOST_CODES];
        private int codes;
        private final int[] stack = new int[MOST_UNITS];

        Plan() {
            clear();
        }

        void clear() {
            posts = 1;
            begin = 0;
            keep = 1;
            turn = 0;
            again = 0;
            boy = NONE;
            guarded = 0;
            words = 0;
            signs = 0;
            units = 0;
            persons = 0;
            drawn = 0;
            code[0] = 3;
            codes = 1;
        }

        /** Done as all is told, since the posts may be told behind begin and boy. */
        void settle() {
            if (posts > 0) {
                begin = begin % posts;
                boy = boy == NONE ? NONE : boy % posts;
            }
        }

        void set(int kind, int value) {
            switch (kind) {
                case STAND: posts = value; break;
                case BEGIN: begin = value; break;
                case LEFT: keep = value; break;
                case TURN: turn = value; break;
                case AGAIN: again = value; break;
                case BOY: boy = value; break;
                default: break;
            }
        }

        boolean knows(long name) {
            for (int i = 0; i < persons && i < MOST_PERSONS; i++) {
                if (names[i] == name) {
                    return true;
                }
            }
            return false;
        }

        boolean draws(int number) {
            for (int i = 0; i < drawn && i < MOST_DRAWN; i++) {
                if (numbers[i] == number) {
                    return true;
                }
            }
            return false;
        }

        void addPerson(long name, int worth) {
            if (persons < MOST_PERSONS) {
                names[persons] = name;
                worths[persons] = worth;
                persons++;
            }
        }

        void addDrawn(int number, int weight) {
            if (drawn < MOST_DRAWN) {
                numbers[drawn] = number;
                weights[drawn] = weight;
                drawn++;
            }
        }

        void forgetCount() {
            codes = 0;
        }

        void addCode(int part) {
            if (codes < code.length) {
                code[codes] = part;
                codes++;
            }
        }

        int hitsToGo(int post) {
            return Posts.has(guarded, post) ? again + 2 : again + 1;
        }

        /** What is counted, made 1 .. 999. */
        int countOf(int going, int here, int last) {
            int depth = 0;
            for (int i = 0; i < codes && i < code.length; i++) {
                int part = code[i];
                if (part == -NOT) {
                    if (depth > 0) {
                        stack[depth - 1] = stack[depth - 1] == 0 ? 1 : 0;
                    }
                } else if (isJoint(part)) {
                    if (depth > 1) {
                        depth--;
                        stack[depth - 1] = joined(-part, stack[depth - 1], stack[depth]);
                    }
                } else if (depth < stack.length) {
                    stack[depth] = valueOf(part, going, here, last);
                    depth++;
                }
            }
            return Math.max(1, Math.min(MOST_COUNTED, stack[0]));
        }

        private static boolean isJoint(int part) {
            return part == -OR || part == -AND || part < 0 && part > -STAND;
        }

        private int valueOf(int part, int going, int here, int last) {
            switch (-part) {
                case GOING: return going;
                case HERE: return here;
                case LAST: return last;
                case WORDS: return words;
                case SIGNS: return signs;
                default: return part;
            }
        }

        private static int joined(int kind, int a, int b) {
            switch (kind) {
                case OR: return a != 0 || b != 0 ? 1 : 0;
                case AND: return a != 0 && b != 0 ? 1 : 0;
                case '<': return a < b ? 1 : 0;
                case '>': return a > b ? 1 : 0;
                case '=': return a == b ? 1 : 0;
                case '+': return a + b;
                case '-': return a - b;
                case '*': return a * b;
                case '/': return b == 0 ? 0 : a / b;
                default: return 0;
            }
        }
    }

    /** The TAPE, and the TOKENS on it one by one. */
    private static final class Tokens {
        private static final int MOST_LETTERS = 8;
        private static final int MOST_DIGITS = 4;
        // In the order of their kinds from STAND on, each closed by a blank.
        private static final String OWN_WORDS = "stand begin left count turn again boy guard rhyme person drawn to worth weight or and not going here last words signs ";

        final byte[] tape = new byte[MOST_BYTES];
        int length;
        int kind;
        int place;
        int value;
        long name;
        int letters;
        private int next;
        private final long[] ownNames = new long[SIGNS - STAND + 1];

        Tokens() {
            int word = 0;
            long packed = 0;
            for (int i = 0; i < OWN_WORDS.length() && word < ownNames.length; i++) {
                char sign = OWN_WORDS.charAt(i);
                if (sign == ' ') {
                    ownNames[word] = packed;
                    word++;
                    packed = 0;
                } else {
                    packed = withLetter(packed, sign);
                }
            }
        }

        void addFour(int bytes) {
            for (int shift = 24; shift >= 0 && length < tape.length; shift -= 8) {
                tape[length] = (byte) (bytes >>> shift);
                length++;
            }
        }

        void rewind() {
            next = 0;
            advance();
        }

        void advance() {
            while (next < length && isBlank(byteAt(next))) {
                next++;
            }
            place = next;
            int sign = byteAt(next);
            if (next >= length) {
                kind = END;
            } else if (isLetter(sign)) {
                takeWord();
            } else if (isDigit(sign)) {
                takeNumber();
            } else {
                kind = isSign(sign) ? sign : BAD;
                next++;
            }
        }

        private void takeWord() {
            name = 0;
            letters = 0;
            while (next < length && isLetter(byteAt(next))) {
                name = withLetter(name, byteAt(next));
                letters++;
                next++;
            }
            kind = letters > MOST_LETTERS ? BAD : kindOf(name);
        }

        private void takeNumber() {
            int digits = 0;
            value = 0;
            while (next < length && isDigit(byteAt(next))) {
                value = value * 10 + byteAt(next) - '0';
                digits++;
                next++;
            }
            kind = digits > MOST_DIGITS || isLetter(byteAt(next)) ? BAD : NUMBER;
        }

        private int kindOf(long word) {
            for (int i = 0; i < ownNames.length; i++) {
                if (ownNames[i] == word) {
                    return STAND + i;
                }
            }
            return NAME;
        }

        /** 0, which is in no TOKEN, where the TAPE has no byte. */
        private int byteAt(int at) {
            return at >= 0 && at < length && at < tape.length ? tape[at] & 255 : 0;
        }

        // Five bits a letter: a word of 8 letters at most is just one long.
        private static long withLetter(long packed, int letter) {
            return packed * 32 + letter - 'a' + 1;
        }

        private static boolean isBlank(int sign) {
            return sign == ' ' || sign == 10;
        }

        private static boolean isLetter(int sign) {
            return sign >= 'a' && sign <= 'z';
        }

        private static boolean isDigit(int sign) {
            return sign >= '0' && sign <= '9';
        }

        private static boolean isSign(int sign) {
            switch (sign) {
                case ';':
                case '(':
                case ')':
                case '<':
                case '>':
                case '=':
                case '+':
                case '-':
                case '*':
                case '/':
                    return true;
                default:
                    return false;
            }
        }
    }

    /**
     * Reads the TAPE as a ring. Every fault is one of the TOKEN that is looked at, and is looked
     * for before the next one is taken: so the first that is found is the first by its place.
     */
    private static final class Reader {
        private static final int NO_TOKEN = 1;
        private static final int MISPLACED = 2;
        private static final int TOLD_ALREADY = 3;
        private static final int WRONG_NUMBER = 4;
        private static final int MOST_GUARDS = 8;
        private static final int MOST_NAMES = 24;

        final Tokens tokens = new Tokens();
        int fault;
        int faultPlace = NONE;
        private Plan plan;
        private final boolean[] seen = new boolean[DRAWN - STAND + 1];
        private int guards;

        Reader(Plan into) {
            plan = into;
        }

        boolean read(Plan into) {
            plan = into;
            plan.clear();
            fault = 0;
            faultPlace = NONE;
            guards = 0;
            for (int i = 0; i < seen.length; i++) {
                seen[i] = false;
            }
            tokens.rewind();
            for (int line = 0; line < MOST_BYTES && tokens.kind != END; line++) {
                if (!readLine()) {
                    return false;
                }
            }
            plan.settle();
            return true;
        }

        private boolean fail(int number) {
            fault = tokens.kind == BAD ? NO_TOKEN : number;
            faultPlace = tokens.place;
            return false;
        }

        private boolean take(int kind) {
            if (tokens.kind != kind) {
                return fail(MISPLACED);
            }
            tokens.advance();
            return true;
        }

        private boolean readLine() {
            int kind = tokens.kind;
            if (kind < STAND || kind > DRAWN || isFull(kind)) {
                return fail(MISPLACED);
            }
            seen[kind - STAND] = true;
            if (kind == COUNT) {
                plan.forgetCount();
            }
            tokens.advance();
            boolean fine;
            switch (kind) {
                case COUNT: fine = readEither(0); break;
                case GUARD: fine = readGuard(); break;
                case RHYME: fine = readRhyme(); break;
                case PERSON: fine = readPerson(); break;
                case DRAWN: fine = readDrawn(); break;
                default: fine = readSetting(kind); break;
            }
            return fine && take(';');
        }

        private boolean isFull(int kind) {
            switch (kind) {
                case GUARD: return guards >= MOST_GUARDS;
                case PERSON: return plan.persons >= MOST_PERSONS;
                case DRAWN: return plan.drawn >= MOST_DRAWN;
                default: return kind < STAND || kind > DRAWN || seen[kind - STAND];
            }
        }

        private boolean isNumber(int least, int most) {
            if (tokens.kind != NUMBER) {
                return fail(MISPLACED);
            }
            return tokens.value >= least && tokens.value <= most || fail(WRONG_NUMBER);
        }

        private boolean readSetting(int kind) {
            int least = kind == STAND || kind == LEFT || kind == TURN ? 1 : 0;
            int most = kind == STAND ? MOST_POSTS : kind == TURN ? 99 : kind == AGAIN ? 9 : MOST_POSTS - 1;
            if (!isNumber(least, most)) {
                return false;
            }
            plan.set(kind, tokens.value);
            tokens.advance();
            return true;
        }

        private boolean readGuard() {
            guards++;
            if (!isNumber(0, MOST_POSTS - 1)) {
                return false;
            }
            int from = tokens.value;
            tokens.advance();
            if (!take(TO) || !isNumber(from, MOST_POSTS - 1)) {
                return false;
            }
            plan.guarded |= Posts.all(tokens.value + 1) & ~Posts.all(from);
            tokens.advance();
            return true;
        }

        private boolean readRhyme() {
            if (tokens.kind != NAME) {
                return fail(MISPLACED);
            }
            for (int i = 0; i < MOST_NAMES && tokens.kind == NAME; i++) {
                plan.words++;
                plan.signs += tokens.letters;
                tokens.advance();
            }
            return true;
        }

        private boolean readPerson() {
            if (tokens.kind != NAME) {
                return fail(MISPLACED);
            }
            long name = tokens.name;
            if (plan.knows(name)) {
                return fail(TOLD_ALREADY);
            }
            tokens.advance();
            if (!take(WORTH) || !isNumber(0, 999)) {
                return false;
            }
            plan.addPerson(name, tokens.value);
            tokens.advance();
            return true;
        }

        private boolean readDrawn() {
            if (!isNumber(1, 999)) {
                return false;
            }
            int number = tokens.value;
            if (plan.draws(number)) {
                return fail(TOLD_ALREADY);
            }
            tokens.advance();
            if (!take(WEIGHT) || !isNumber(1, 99)) {
                return false;
            }
            plan.addDrawn(number, tokens.value);
            tokens.advance();
            return true;
        }

        private boolean readEither(int depth) {
            boolean fine = readBoth(depth);
            for (int i = 0; i < MOST_UNITS && fine && tokens.kind == OR; i++) {
                tokens.advance();
                fine = readBoth(depth);
                plan.addCode(-OR);
            }
            return fine;
        }

        private boolean readBoth(int depth) {
            boolean fine = readOne(depth);
            for (int i = 0; i < MOST_UNITS && fine && tokens.kind == AND; i++) {
                tokens.advance();
                fine = readOne(depth);
                plan.addCode(-AND);
            }
            return fine;
        }

        private boolean readOne(int depth) {
            if (tokens.kind == NOT) {
                return readNot(depth);
            }
            if (!readSum(depth)) {
                return false;
            }
            int kind = tokens.kind;
            if (kind != '<' && kind != '>' && kind != '=') {
                return true;
            }
            tokens.advance();
            boolean fine = readSum(depth);
            plan.addCode(-kind);
            return fine;
        }

        private boolean readNot(int depth) {
            if (depth >= MOST_DEPTH) {
                return fail(MISPLACED);
            }
            tokens.advance();
            boolean fine = readOne(depth + 1);
            plan.addCode(-NOT);
            return fine;
        }

        private boolean readSum(int depth) {
            boolean fine = readTerm(depth);
            for (int i = 0; i < MOST_UNITS && fine && (tokens.kind == '+' || tokens.kind == '-'); i++) {
                int kind = tokens.kind;
                tokens.advance();
                fine = readTerm(depth);
                plan.addCode(-kind);
            }
            return fine;
        }

        private boolean readTerm(int depth) {
            boolean fine = readUnit(depth);
            for (int i = 0; i < MOST_UNITS && fine && (tokens.kind == '*' || tokens.kind == '/'); i++) {
                int kind = tokens.kind;
                tokens.advance();
                fine = readUnit(depth);
                plan.addCode(-kind);
            }
            return fine;
        }

        private boolean readUnit(int depth) {
            int kind = tokens.kind;
            if (!isUnit(kind) || plan.units >= MOST_UNITS || kind == '(' && depth >= MOST_DEPTH) {
                return fail(MISPLACED);
            }
            plan.units++;
            if (kind == '(') {
                tokens.advance();
                return readEither(depth + 1) && take(')');
            }
            plan.addCode(kind == NUMBER ? tokens.value : -kind);
            tokens.advance();
            return true;
        }

        private static boolean isUnit(int kind) {
            return kind == NUMBER || kind == '(' || kind >= GOING && kind <= SIGNS;
        }
    }

    /** How far the going has come; in a BOX, an image of that. */
    private static final class Course {
        boolean isKept;
        long stands;
        int goings;
        int firstAt;
        int secondAt;
        int gone;
        final int[] hits = new int[MOST_POSTS];
        final int[] wentIn = new int[MOST_POSTS];
        final int[] goers = new int[MOST_POSTS];
        private int begin;
        private int last;

        void startFrom(Plan plan, int from) {
            stands = Posts.all(plan.posts);
            goings = 0;
            firstAt = NONE;
            secondAt = NONE;
            gone = 0;
            begin = from;
            last = 0;
            Arrays.fill(hits, 0);
            Arrays.fill(wentIn, NONE);
        }

        void copyFrom(Course other) {
            stands = other.stands;
            goings = other.goings;
            firstAt = other.firstAt;
            secondAt = other.secondAt;
            gone = other.gone;
            begin = other.begin;
            last = other.last;
            System.arraycopy(other.hits, 0, hits, 0, MOST_POSTS);
            System.arraycopy(other.wentIn, 0, wentIn, 0, MOST_POSTS);
            System.arraycopy(other.goers, 0, goers, 0, MOST_POSTS);
        }

        int standing() {
            return Long.bitCount(stands);
        }

        boolean standsAt(int post) {
            return Posts.has(stands, post);
        }

        boolean isTurned(Plan plan) {
            return plan.turn > 0 && goings / plan.turn % 2 == 1;
        }

        /** One who was never HIT comes to an empty post. */
        void comeTo(int post) {
            if (post >= 0 && post < MOST_POSTS) {
                stands |= Posts.bit(post);
                hits[post] = 0;
            }
        }

        /** GOINGS till no more than so many stand, at most so many: how many there were. */
        int goOn(Plan plan, int keep, int most) {
            int made = 0;
            while (made < most && standing() > keep) {
                goOnce(plan, nextCount(plan));
                made++;
            }
            return made;
        }

        int nextCount(Plan plan) {
            return plan.countOf(goings + 1, standing(), last);
        }

        void goOnce(Plan plan, int count) {
            boolean second = plan.boy != NONE && goings % 2 == 1;
            boolean up = second == isTurned(plan);
            int post = Posts.counted(stands, firstLook(plan, second, up), up, count);
            goings++;
            last = count;
            if (second) {
                secondAt = post;
            } else {
                firstAt = post;
            }
            hit(plan, post);
        }

        private int firstLook(Plan plan, boolean second, boolean up) {
            int was = second ? secondAt : firstAt;
            if (was == NONE) {
                return second ? plan.boy : begin;
            }
            return Posts.next(was, plan.posts, up);
        }

        private void hit(Plan plan, int post) {
            if (post < 0 || post >= MOST_POSTS) {
                return;
            }
            hits[post]++;
            if (hits[post] < plan.hitsToGo(post)) {
                return;
            }
            stands &= ~Posts.bit(post);
            wentIn[post] = goings;
            if (gone < MOST_POSTS) {
                goers[gone] = post;
                gone++;
            }
        }
    }

    /** WHAT COMES: all is gone on with in courses of its own, so that it stays as it was. */
    private static final class Ahead {
        private final Course work = new Course();
        private final Course trial = new Course();

        long leftOf(Plan plan, Course now, int keep) {
            work.copyFrom(now);
            work.goOn(plan, keep, MOST_GOINGS);
            return work.stands;
        }

        int goingOf(Plan plan, Course now, int post) {
            if (!now.standsAt(post) || post < 0 || post >= MOST_POSTS) {
                return NONE;
            }
            leftOf(plan, now, plan.keep);
            return work.wentIn[post];
        }

        long goodFor(Plan plan, Course now, int goings) {
            work.copyFrom(now);
            work.goOn(plan, plan.keep, goings);
            long good = 0;
            for (int post = 0; post < plan.posts; post++) {
                if (!work.standsAt(post)) {
                    trial.copyFrom(work);
                    trial.comeTo(post);
                    if (trialKeeps(plan, post)) {
                        good |= Posts.bit(post);
                    }
                }
            }
            return good;
        }

        int bribeFor(Plan plan, Course now, int post) {
            if (!now.standsAt(post) || Posts.has(leftOf(plan, now, plan.keep), post)) {
                return NONE;
            }
            work.copyFrom(now);
            // As the one at the post has gone, no later bribe brings that one back.
            for (int i = 0; i < MOST_GOINGS && work.standsAt(post); i++) {
                int count = work.nextCount(plan);
                trial.copyFrom(work);
                trial.goOnce(plan, count + 1);
                if (trialKeeps(plan, post)) {
                    return work.goings + 1;
                }
                work.goOnce(plan, count);
            }
            return NONE;
        }

        private boolean trialKeeps(Plan plan, int post) {
            for (int i = 0; i < MOST_GOINGS && trial.standing() > plan.keep; i++) {
                if (!trial.standsAt(post)) {
                    return false;
                }
                trial.goOnce(plan, trial.nextCount(plan));
            }
            return trial.standsAt(post);
        }

        int meeting(Plan plan, Course now) {
            if (plan.boy == NONE) {
                return NONE;
            }
            work.copyFrom(now);
            for (int i = 0; i < MOST_GOINGS && work.standing() > plan.keep; i++) {
                work.goOnce(plan, work.nextCount(plan));
                if (areNear(plan.posts)) {
                    return work.goings;
                }
            }
            return NONE;
        }

        private boolean areNear(int posts) {
            if (work.firstAt == NONE || work.secondAt == NONE) {
                return false;
            }
            int apart = Math.abs(work.firstAt - work.secondAt);
            return apart <= 1 || apart == posts - 1;
        }

        long beginsFor(Plan plan, int post) {
            long good = 0;
            for (int begin = 0; begin < plan.posts; begin++) {
                trial.startFrom(plan, begin);
                if (trialKeeps(plan, post)) {
                    good |= Posts.bit(begin);
                }
            }
            return good;
        }

        int choiceFor(Plan plan, long set) {
            // With a set of more than left the ring has more, too, and goes on till fewer stand.
            if (Long.bitCount(set) > plan.keep) {
                return NONE;
            }
            for (int count = 1; count <= MOST_COUNTED; count++) {
                if (keepsAll(plan, set, count)) {
                    return count;
                }
            }
            return NONE;
        }

        private boolean keepsAll(Plan plan, long set, int count) {
            work.startFrom(plan, plan.begin);
            for (int i = 0; i < MOST_GOINGS && work.standing() > plan.keep; i++) {
                work.goOnce(plan, count);
                if ((set & ~work.stands) != 0) {
                    return false;
                }
            }
            return true;
        }

        Course wholeCourse(Plan plan) {
            work.startFrom(plan, plan.begin);
            work.goOn(plan, plan.keep, MOST_GOINGS);
            return work;
        }
    }

    /** The law of PLAIN rings. */
    private static final class Plain {
        // Far above the some k * ln(k * n) rounds that the greatest ring takes.
        private static final int MOST_ROUNDS = 1000000;
        // Two longs have their greatest common divisor in fewer than 100 divisions.
        private static final int MOST_DIVISIONS = 100;

        private Plain() {
        }

        /** The i-th to GO: found in the ring of those who stand then, put back one by one. */
        static int goer(int n, int k, int i) {
            int ring = n - i + 1;
            if (ring < 1) {
                return NONE;
            }
            int post = (k - 1) % ring;
            for (int grown = ring + 1; grown <= n; grown++) {
                post = (post + k) % grown;
            }
            return post;
        }

        /**
         * Counts go on from 1 through all rounds: who is counted with m * k is the m-th to GO, and
         * who is counted with x and stays is counted again with n + x - x / k; here that is
         * undone till the first round.
         */
        static long farGoer(long n, int k, long m) {
            long count = m * k;
            for (int round = 0; round < MOST_ROUNDS && count > n && k > 1; round++) {
                count = count - n + (count - n - 1) / (k - 1);
            }
            return count - 1;
        }

        static long placeOf(long n, int k, long post) {
            if (k < 1) {
                return NONE;
            }
            long count = post + 1;
            for (int round = 0; round < MOST_ROUNDS && count % k != 0; round++) {
                count = n + count - count / k;
            }
            return count / k;
        }

        static int sizeKeeping(int k, int post, int i) {
            int before = 0;
            int last = 0;
            for (int n = 1; n <= MOST_SIZE; n++) {
                last = (last + k) % n;
                if (last == post) {
                    if (before == i) {
                        return n;
                    }
                    before++;
                }
            }
            return NONE;
        }

        /** The least k by which just those of a set GO first, in any order. */
        static int leastSending(int n, long set) {
            int many = Long.bitCount(set);
            for (int k = 1; k <= MOST_K; k++) {
                if (sends(n, k, set, many)) {
                    return k;
                }
            }
            return NONE;
        }

        private static boolean sends(int n, int k, long set, int many) {
            long stands = Posts.all(n);
            int rank = 0;
            for (int i = 0; i < many && i < n; i++) {
                rank = (rank + k - 1) % (n - i);
                int post = Posts.ranked(stands, rank);
                if (!Posts.has(set, post)) {
                    return false;
                }
                stands &= ~Posts.bit(post);
            }
            return true;
        }

        static long greatestCommon(long a, long b) {
            long greater = a;
            long less = b;
            for (int i = 0; i < MOST_DIVISIONS && less != 0; i++) {
                long rest = greater % less;
                greater = less;
                less = rest;
            }
            return greater;
        }

        static long neverLast(int n, int m) {
            long posts = Posts.all(n);
            for (int k = 1; k <= m && posts != 0; k++) {
                posts &= ~Posts.bit(goer(n, k, n));
            }
            return posts;
        }

        static int leastForAll(int n) {
            long posts = Posts.all(n);
            for (int k = 1; k <= MOST_K; k++) {
                posts &= ~Posts.bit(goer(n, k, n));
                if (posts == 0) {
                    return k;
                }
            }
            return NONE;
        }
    }

    /** The TOLD ORDER. */
    private static final class Order {
        private static final int MOST_ASKED = 8;
        private static final int MOST_RULE = 12;
        private static final int MOST_TURN = 6;

        final int[] posts = new int[MOST_POSTS];
        int length;
        int fitting;
        int plainest;

        int firstWrong(Course course) {
            for (int i = 0; i < length && i < MOST_POSTS; i++) {
                if (i >= course.gone || course.goers[i] != posts[i]) {
                    return i;
                }
            }
            return NONE;
        }

        /** The i-th to GO tells the remainder of k by how many stand then. */
        long leastNumber(int n) {
            if (length == 0) {
                return NONE;
            }
            long stands = Posts.all(n);
            long number = 0;
            long step = 1;
            int from = 0;
            for (int i = 0; i < length && i < MOST_ASKED; i++) {
                int post = posts[i];
                int standing = n - i;
                if (standing < 1 || !Posts.has(stands, post)) {
                    return NONE;
                }
                int remainder = Posts.countTo(stands, from, post) % standing;
                number = withRemainder(number, step, remainder, standing);
                if (number < 0) {
                    return NONE;
                }
                step = leastCommon(step, standing);
                stands &= ~Posts.bit(post);
                from = Posts.next(post, n, true);
            }
            return number == 0 ? step : number;
        }

        private static long withRemainder(long number, long step, int remainder, int divisor) {
            for (int i = 0; i < divisor; i++) {
                long next = number + step * i;
                if (next % divisor == remainder) {
                    return next;
                }
            }
            return NONE;
        }

        private static long leastCommon(long a, int b) {
            long common = Plain.greatestCommon(a, b);
            return common < 1 ? a : a / common * b;
        }

        void tryRules(int n) {
            fitting = 0;
            plainest = NONE;
            if (length == 0 || length > n) {
                return;
            }
            int least = Integer.MAX_VALUE;
            // By a, then b: of RULES that are alike plain the first one found is kept.
            for (int a = 1; a <= MOST_RULE; a++) {
                for (int b = 1; b <= MOST_RULE; b++) {
                    for (int t = 0; t <= MOST_TURN; t++) {
                        if (isBy(n, a, b, t)) {
                            fitting++;
                            if (a + b + t < least) {
                                least = a + b + t;
                                plainest = 10000 * a + 100 * b + t;
                            }
                        }
                    }
                }
            }
        }

        private boolean isBy(int n, int a, int b, int t) {
            long stands = Posts.all(n);
            boolean up = true;
            int from = 0;
            for (int i = 0; i < length && i < MOST_POSTS; i++) {
                int post = Posts.counted(stands, from, up, i % 2 == 0 ? a : b);
                if (post != posts[i]) {
                    return false;
                }
                stands &= ~Posts.bit(post);
                if (t > 0 && (i + 1) % t == 0) {
                    up = !up;
                }
                from = Posts.next(post, n, up);
            }
            return true;
        }
    }

    /** Which posts of a PLAIN ring GO last, by numbers that weigh. */
    private static final class Draws {
        private final int[] weights = new int[MOST_POSTS];
        int sum;

        private void clear() {
            Arrays.fill(weights, 0);
            sum = 0;
        }

        private void add(int post, int weight) {
            if (post >= 0 && post < MOST_POSTS) {
                weights[post] += weight;
                sum += weight;
            }
        }

        void tallyUpTo(int n, int m) {
            clear();
            for (int k = 1; k <= m; k++) {
                add(Plain.goer(n, k, n), 1);
            }
        }

        void tallyDrawn(int n, Plan plan) {
            clear();
            for (int i = 0; i < plan.drawn && i < MOST_DRAWN; i++) {
                add(Plain.goer(n, plan.numbers[i], n), plan.weights[i]);
            }
        }

        int weightAt(int post) {
            return post >= 0 && post < MOST_POSTS ? weights[post] : 0;
        }

        /** The first post of most weight that is not taken. */
        int heaviest(int n, long taken) {
            int best = NONE;
            for (int post = 0; post < n && post < MOST_POSTS; post++) {
                if (!Posts.has(taken, post) && (best == NONE || weights[post] > weightAt(best))) {
                    best = post;
                }
            }
            return best;
        }

        int chosenBy(int n, Plan plan, int person) {
            tallyDrawn(n, plan);
            long taken = 0;
            for (int ahead = 0; ahead < person && ahead < MOST_PERSONS; ahead++) {
                taken |= Posts.bit(heaviest(n, taken));
            }
            return heaviest(n, taken);
        }

        /** The upper (0) or lower part of a fraction in lowest terms. */
        static int partOf(int upper, int lower, int part) {
            int common = (int) Plain.greatestCommon(upper, lower);
            if (common < 1) {
                return NONE;
            }
            return (part == 0 ? upper : lower) / common;
        }
    }

    /** The SIGHTS, each with the numbers by which it was so. */
    private static final class Sights {
        private static final int MOST_SIGHTS = 40;
        private static final int MOST_FIT = 200;
        private static final int ROWS = 4;

        int count;
        private final int[] toldAt = new int[MOST_SIGHTS];
        private final int[] untoldAt = new int[MOST_SIGHTS];
        // A number's bit stands in row number / 64 of the sight's four.
        private final long[] agreeing = new long[MOST_SIGHTS * ROWS];
        private final long[] fit = new long[ROWS];
        private final int[] tally = new int[MOST_POSTS * MOST_POSTS];

        int tell(int n, int i, int post, int time) {
            if (count < 0 || count >= MOST_SIGHTS) {
                return NONE;
            }
            toldAt[count] = time;
            untoldAt[count] = NONE;
            int row = count * ROWS;
            for (int part = 0; part < ROWS; part++) {
                agreeing[row + part] = 0;
            }
            for (int k = 1; k <= MOST_FIT; k++) {
                if (Plain.goer(n, k, i) == post) {
                    agreeing[row + k / 64] |= 1L << k % 64;
                }
            }
            count++;
            return count - 1;
        }

        boolean takeBack(int sight, int time) {
            if (sight < 0 || sight >= count || sight >= MOST_SIGHTS || untoldAt[sight] != NONE) {
                return false;
            }
            untoldAt[sight] = time;
            return true;
        }

        /** Keeps the numbers that FIT as known at a time. */
        void sift(int time) {
            for (int row = 0; row < ROWS; row++) {
                fit[row] = -1L;
            }
            for (int sight = 0; sight < count && sight < MOST_SIGHTS; sight++) {
                boolean untold = untoldAt[sight] != NONE && untoldAt[sight] <= time;
                if (toldAt[sight] <= time && !untold) {
                    for (int row = 0; row < ROWS; row++) {
                        fit[row] &= agreeing[sight * ROWS + row];
                    }
                }
            }
        }

        private boolean isFit(int k) {
            return k >= 1 && k <= MOST_FIT && (fit[k / 64] >>> k % 64 & 1L) != 0;
        }

        int fitCount() {
            int many = 0;
            for (int k = 1; k <= MOST_FIT; k++) {
                if (isFit(k)) {
                    many++;
                }
            }
            return many;
        }

        int leastFit() {
            for (int k = 1; k <= MOST_FIT; k++) {
                if (isFit(k)) {
                    return k;
                }
            }
            return NONE;
        }

        int bestQuestion(int n) {
            Arrays.fill(tally, 0);
            for (int k = 1; k <= MOST_FIT; k++) {
                if (isFit(k)) {
                    tallyOrder(n, k);
                }
            }
            int best = 1;
            for (int i = 2; i <= n; i++) {
                if (greatestAt(n, i) < greatestAt(n, best)) {
                    best = i;
                }
            }
            return best;
        }

        private void tallyOrder(int n, int k) {
            long stands = Posts.all(n);
            int rank = 0;
            for (int i = 0; i < n && i < MOST_POSTS; i++) {
                rank = (rank + k - 1) % (n - i);
                int post = Posts.ranked(stands, rank);
                if (post >= 0 && post < MOST_POSTS) {
                    tally[i * MOST_POSTS + post]++;
                    stands &= ~Posts.bit(post);
                }
            }
        }

        /** How many of those that FIT have the likeliest post as the i-th to GO. */
        int greatestAt(int n, int i) {
            int most = 0;
            if (i < 1 || i > MOST_POSTS) {
                return most;
            }
            for (int post = 0; post < n && post < MOST_POSTS; post++) {
                most = Math.max(most, tally[(i - 1) * MOST_POSTS + post]);
            }
            return most;
        }
    }
}
