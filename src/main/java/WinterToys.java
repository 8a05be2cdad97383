import java.util.Arrays;

/** A barn of winter toys; the promises that it keeps are told in DOC.md. */
public final class WinterToys {
    public static final int NONE = -1;

    private static final int MOST_BYTES = 1000;
    private static final int MOST_KINDS = 10;
    private static final int MOST_MARKS = 8;
    private static final int MOST_OTHERS = 24;
    private static final int MOST_OPEN = 8;
    private static final int MOST_ACTS = 200;
    private static final int MOST_REPORTS = 80;
    private static final int MOST_CHILDREN = 40;
    private static final int MOST_AGE = 17;
    private static final int DAYS = 24;
    private static final int MOST_DUE = 3;
    private static final int TOLD_WISHES = 3;
    private static final int KEPT_WISHES = 4;
    private static final int MOST_WORTH = 500;
    private static final int MOST_COINS = 100000;
    private static final int MOST_WINDOWS = 9;
    private static final int NO_POINTS = -2000000000;
    /** A bound for loops that end much sooner by themselves. */
    private static final int PATIENCE = 1000000;

    /** Tokens that are signs are their byte; the others lie above every byte, words and numbers last. */
    private static final int END = 256;
    private static final int BAD = 257;
    private static final int NAME = 258;
    private static final int NUMBER = 259;
    private static final int OWN = 260;

    /** A word is kept as eight times five bits, its first letter highest, 0 where there is none. */
    private static final int LETTERS = 8;
    private static final int LETTER_BITS = 5;
    private static final int FIRST_SHIFT = LETTER_BITS * (LETTERS - 1);
    private static final int BEFORE_A = 'a' - 1;
    private static final int DIGITS = 5;

    /** The n-th of them, from 1 on, is the token OWN + n. */
    private static final String OWN_WORDS =
            "kind worth price at is never for likes of gifts even or and not any all wish age ages school house wishes ";
    private static final int OWN_COUNT = 22;
    private static final int KIND = 1;
    private static final int WORTH = 2;
    private static final int PRICE = 3;
    private static final int AT = 4;
    private static final int IS = 5;
    private static final int NEVER = 6;
    private static final int FOR = 7;
    private static final int LIKES = 8;
    private static final int OF = 9;
    private static final int GIFTS = 10;
    private static final int EVEN = 11;
    private static final int OR = 12;
    private static final int AND = 13;
    private static final int NOT = 14;
    private static final int ANY = 15;
    private static final int ALL = 16;
    private static final int WISH = 17;
    private static final int AGE = 18;
    private static final int WISHES = 22;

    /** What an act is. */
    private static final int REPORT_ACT = 1;
    private static final int GIFTS_ACT = 2;
    private static final int CALL_ACT = 3;
    private static final int VOID_ACT = 4;

    private Book book = new Book();
    /** A text is read into this one, so that a fault leaves the other as it was. */
    private Book spare = new Book();
    private final Tape tape = new Tape();
    private final Parser parser = new Parser(tape, spare);
    private final Ledger ledger = new Ledger();
    private final Known known = new Known();
    private final Judge judge = new Judge();
    private final Floor floor = new Floor();
    private final Filler filler = new Filler(floor);
    private final Ranker ranker = new Ranker(floor, filler);
    private final Giving giving = new Giving();
    private final Bags bags = new Bags();
    private int asAct = NONE;
    /** Gifts by kind, while days go by. */
    private final int[] come = new int[MOST_KINDS];

    public WinterToys() {
    }

    public int feed(int a, int b, int c, int d, int e) {
        if (tape.length + 20 > MOST_BYTES) {
            return NONE;
        }
        tape.put(a);
        tape.put(b);
        tape.put(c);
        tape.put(d);
        tape.put(e);
        return tape.length;
    }

    public boolean end(int n) {
        if (n < 0 || n > tape.length) {
            return false;
        }
        tape.length = n;
        return true;
    }

    public int rules() {
        boolean sound = parser.readsAll(spare);
        tape.length = 0;
        if (!sound) {
            return NONE;
        }
        Book old = book;
        book = spare;
        spare = old;
        judge.chooseKinds(book);
        ledger.empty();
        asAct = NONE;
        known.forget();
        giving.there = false;
        return book.kinds + book.others;
    }

    public int fault(int what) {
        if (what == 0) {
            return parser.fault;
        }
        return what == 1 ? parser.place : NONE;
    }

    public int name(boolean mark, int i, int k) {
        if (i < 0 || i >= (mark ? book.marks : book.kinds)) {
            return NONE;
        }
        return letterOf(mark ? book.markName[i] : book.kindName[i], k);
    }

    public int marked(int kind, int mark) {
        if (!isKind(kind) || mark < 0 || mark >= book.marks) {
            return NONE;
        }
        return (book.markKinds[mark] >> kind) & 1;
    }

    // ---- acts

    public int report(int code, int age, int school, int house, int day) {
        int wishes = tape.readWishes(ledger.heard);
        tape.length = 0;
        boolean sound = wishes != NONE && within(code, 0, 9999) && within(age, 0, MOST_AGE)
                && within(school, 0, 99) && within(house, 0, 999) && isDay(day);
        if (!sound || ledger.reports >= MOST_REPORTS || ledger.isFull()) {
            return NONE;
        }
        return ledger.addReport(code, age, school, house, day, wishes);
    }

    public int gifts(int kind, int day, int n) {
        if (!isKind(kind) || !isDay(day) || !within(n, 1, 99) || ledger.isFull()) {
            return NONE;
        }
        return ledger.add(GIFTS_ACT, kind, day, n);
    }

    public int call(int kind, int day) {
        if (!isKind(kind) || !isDay(day) || ledger.isFull()) {
            return NONE;
        }
        return ledger.add(CALL_ACT, kind, day, 0);
    }

    public int annul(int act) {
        if (act < 1 || act > ledger.acts || ledger.isFull()) {
            return NONE;
        }
        if (ledger.what[act] == VOID_ACT || ledger.voidBy[act] != 0) {
            return NONE;
        }
        return ledger.addVoid(act);
    }

    public boolean as(int act) {
        if (act < NONE || act > ledger.acts) {
            return false;
        }
        asAct = act;
        return true;
    }

    public int all(int what) {
        switch (what) {
            case 0:
                return book.kinds;
            case 1:
                return book.marks;
            case 2:
                return book.others;
            case 3:
                return ledger.acts;
            case 4:
                return actNow();
            case 5:
                look();
                return known.count;
            case 6:
                look();
                return known.doubts();
            case 7:
                return book.even;
            default:
                return NONE;
        }
    }

    // ---- children

    public int child(int act) {
        if (act < 1 || act > actNow()) {
            return NONE;
        }
        look();
        return known.childOf[act];
    }

    public int of(int child, int what) {
        if (!isChild(child)) {
            return NONE;
        }
        if (what == 9) {
            judge.weigh(book, known, child);
            return judge.due[child];
        }
        return known.fact(child, what);
    }

    public int wish(int child, int i, int k) {
        if (!isChild(child) || i < 0 || i >= known.wishes[child]) {
            return NONE;
        }
        return letterOf(known.wishWord[child * KEPT_WISHES + i], k);
    }

    public int may(int child, int kind) {
        if (!isChild(child) || !isKind(kind)) {
            return NONE;
        }
        judge.weigh(book, known, child);
        return (judge.may[child] >> kind) & 1;
    }

    public int points(int child, int kind) {
        if (!isChild(child) || !isKind(kind)) {
            return NO_POINTS;
        }
        judge.weigh(book, known, child);
        return judge.points[child * MOST_KINDS + kind];
    }

    // ---- the giving

    public int give() {
        weighAll();
        floor.clear(book.kinds);
        Arrays.fill(come, 0);
        for (int day = 1; day <= DAYS; day++) {
            known.addCome(come, day, book.kinds);
            floor.addDay(known, judge, day, come);
        }
        ranker.deal();
        return giving.keep(book, known, judge, floor, come);
    }

    public int given(int what) {
        return giving.there ? giving.total(what) : NONE;
    }

    public int gets(int child) {
        return giving.isChild(child) ? giving.bag[child] : NONE;
    }

    public int left(int kind) {
        return giving.there && isKind(kind) ? giving.rest[kind] : NONE;
    }

    public int blind() {
        weighAll();
        Arrays.fill(come, 0);
        int sum = 0;
        for (int day = 1; day <= DAYS; day++) {
            known.addCome(come, day, book.kinds);
            floor.clear(book.kinds);
            floor.addDay(known, judge, day, come);
            if (floor.rows > 0) {
                ranker.deal();
                sum += floor.takeRest(come);
            }
        }
        return sum;
    }

    public int lacks(int from, int to) {
        return giving.there ? giving.lacking(from, to) : NONE;
    }

    // ---- coins

    public int price(int child) {
        return giving.isChild(child) ? giving.costOf(child, book) : NONE;
    }

    public int spend(int coins) {
        if (!giving.there || giving.cost != NONE || !within(coins, 0, MOST_COINS)) {
            return NONE;
        }
        return giving.buy(coins, book);
    }

    public int spent() {
        return giving.there ? giving.cost : NONE;
    }

    public int right() {
        return giving.there ? giving.countRight(book) : NONE;
    }

    // ---- bags

    public int walks(int b) {
        if (!giving.there || !within(b, 1, MOST_CHILDREN)) {
            return NONE;
        }
        bags.sort(giving, book);
        return bags.steps(b);
    }

    public int bag(int k) {
        if (!giving.there || k < 0) {
            return NONE;
        }
        bags.sort(giving, book);
        return k < bags.count ? bags.order[k] : NONE;
    }

    public int queue(int day, int w, int what) {
        if (!giving.there || !isDay(day) || !within(w, 1, MOST_WINDOWS) || !within(what, 0, 2)) {
            return NONE;
        }
        bags.formLine(giving, day);
        if (what == 0) {
            return bags.houses;
        }
        bags.serveLine(w);
        return what == 1 ? bags.waited : bags.lastMinute;
    }

    public int label(int child) {
        if (!giving.isChild(child) || giving.bag[child] == 0) {
            return NONE;
        }
        return bags.write(giving.bag[child], book);
    }

    public int at(int k) {
        return k >= 0 && k < bags.written ? bags.text[k] : NONE;
    }

    private static boolean within(int number, int least, int most) {
        return number >= least && number <= most;
    }

    private static boolean isDay(int day) {
        return within(day, 1, DAYS);
    }

    private static int letterOf(long word, int k) {
        if (k < 0 || k >= LETTERS) {
            return NONE;
        }
        int letter = (int) (word >> FIRST_SHIFT - LETTER_BITS * k) & (1 << LETTER_BITS) - 1;
        return letter == 0 ? NONE : letter + BEFORE_A;
    }

    private boolean isKind(int kind) {
        return kind >= 0 && kind < book.kinds;
    }

    private boolean isChild(int child) {
        look();
        return child >= 0 && child < known.count;
    }

    private int actNow() {
        return asAct == NONE ? ledger.acts : asAct;
    }

    private void look() {
        known.look(ledger, actNow());
    }

    private void weighAll() {
        look();
        for (int child = 0; child < known.count; child++) {
            judge.weigh(book, known, child);
        }
    }

    /** The bytes that were fed, and what is read from them token by token. */
    private static final class Tape {
        final int[] bytes = new int[MOST_BYTES];
        int length;
        final long[] own = new long[OWN_COUNT];
        int pos;
        int token;
        /** Where the token begins; of a BAD one, the byte that can't be. */
        int start;
        long word;
        int number;

        Tape() {
            int n = 0;
            int k = 0;
            for (int i = 0; i < OWN_WORDS.length() && n < OWN_COUNT; i++) {
                char letter = OWN_WORDS.charAt(i);
                if (letter == ' ') {
                    n++;
                    k = 0;
                } else {
                    own[n] |= (long) (letter - BEFORE_A) << FIRST_SHIFT - LETTER_BITS * k;
                    k++;
                }
            }
        }

        void put(int number4) {
            for (int shift = 24; shift >= 0; shift -= 8) {
                if (length < MOST_BYTES) {
                    bytes[length] = (number4 >>> shift) & 255;
                    length++;
                }
            }
        }

        void rewind() {
            pos = 0;
            token = END;
            step();
        }

        void step() {
            boolean behindWord = token >= NAME;
            int behind = pos;
            while (pos < length && (bytes[pos] == 10 || bytes[pos] == 32)) {
                pos++;
            }
            start = pos;
            token = pos < length ? bytes[pos] : END;
            boolean letter = token >= 'a' && token <= 'z';
            boolean digit = token >= '0' && token <= '9';
            if (letter) {
                readWord();
            } else if (digit) {
                readNumber();
            } else {
                pos = Math.min(pos + 1, length);
            }
            if (behindWord && (letter || digit) && start == behind) {
                token = BAD;
            }
        }

        private void readWord() {
            word = 0;
            for (; pos < length && bytes[pos] >= 'a' && bytes[pos] <= 'z'; pos++) {
                int k = pos - start;
                if (k == LETTERS) {
                    start = pos;
                    token = BAD;
                    return;
                }
                word |= (long) (bytes[pos] - BEFORE_A) << FIRST_SHIFT - LETTER_BITS * k;
            }
            token = NAME;
            for (int n = 0; n < OWN_COUNT; n++) {
                if (own[n] == word) {
                    token = OWN + n + 1;
                    return;
                }
            }
        }

        private void readNumber() {
            number = 0;
            for (; pos < length && bytes[pos] >= '0' && bytes[pos] <= '9'; pos++) {
                if (pos - start == DIGITS) {
                    start = pos;
                    token = BAD;
                    return;
                }
                number = number * 10 + bytes[pos] - '0';
            }
            token = NUMBER;
        }

        /** How many wishes the tape tells; NONE if it tells something else. */
        int readWishes(long[] into) {
            rewind();
            for (int n = 0; n < TOLD_WISHES; n++) {
                if (token != NAME) {
                    return token == END ? n : NONE;
                }
                into[n] = word;
                step();
            }
            return token == END ? TOLD_WISHES : NONE;
        }
    }

    /** What a text of rules tells: kinds, marks, and clauses as code that the judge reckons. */
    private static final class Book {
        static final int NUMBER_CODE = 1;
        static final int FACT_CODE = 2;
        static final int FULL_CODE = 3;
        static final int WISH_CODE = 4;
        static final int KIND_CODE = 5;
        static final int MARK_CODE = 6;
        static final int NOT_CODE = 7;
        /** Codes from here on join two values. */
        static final int AND_CODE = 8;
        static final int OR_CODE = 9;
        static final int LESS_CODE = 10;
        static final int MORE_CODE = 11;
        static final int LIKE_CODE = 12;
        static final int ADD_CODE = 13;
        static final int TAKE_CODE = 14;
        static final int TIMES_CODE = 15;
        static final int MOST_ASKED = 200;

        int kinds;
        final long[] kindName = new long[MOST_KINDS];
        final int[] worth = new int[MOST_KINDS];
        final int[] price = new int[MOST_KINDS];
        final int[] shelf = new int[MOST_KINDS];
        int marks;
        final long[] markName = new long[MOST_MARKS];
        /** For each mark the kinds that have it, as bits. */
        final int[] markKinds = new int[MOST_MARKS];
        int others;
        int even = 1000;
        /** Of each other statement its first word; where its sum, which and test begin, and its end. */
        final int[] what = new int[MOST_OTHERS];
        final int[] sumAt = new int[MOST_OTHERS];
        final int[] whichAt = new int[MOST_OTHERS];
        final int[] testAt = new int[MOST_OTHERS];
        final int[] endAt = new int[MOST_OTHERS];
        /** The kinds of its which, as bits. */
        final int[] which = new int[MOST_OTHERS];
        final int[] code = new int[MOST_BYTES];
        int size;
        final long[] asked = new long[MOST_ASKED];
        int askedCount;

        void empty() {
            kinds = 0;
            marks = 0;
            others = 0;
            even = 1000;
            size = 0;
            askedCount = 0;
        }

        int kindOf(long word) {
            for (int i = 0; i < kinds; i++) {
                if (kindName[i] == word) {
                    return i;
                }
            }
            return NONE;
        }

        int markOf(long word) {
            for (int i = 0; i < marks; i++) {
                if (markName[i] == word) {
                    return i;
                }
            }
            return NONE;
        }

        void addMark(long word) {
            if (marks < MOST_MARKS) {
                markName[marks] = word;
                markKinds[marks] = 0;
                marks++;
            }
        }

        void addCode(int kindOfCode, int value) {
            if (size < MOST_BYTES) {
                code[size] = value << 4 | kindOfCode;
                size++;
            }
        }

        void addAsked(long word) {
            if (askedCount < MOST_ASKED) {
                asked[askedCount] = word;
                addCode(WISH_CODE, askedCount);
                askedCount++;
            }
        }

        void addOther(int first, int sum, int whichBegin, int test) {
            if (others < MOST_OTHERS) {
                what[others] = first;
                sumAt[others] = sum;
                whichAt[others] = whichBegin;
                testAt[others] = test;
                endAt[others] = size;
                others++;
            }
        }
    }

    /** Reads a text of rules into a book; each reader answers false at a fault. */
    private static final class Parser {
        final Tape tape;
        Book book;
        int fault;
        int place = NONE;
        /** How many round and square brackets are open. */
        int open;

        Parser(Tape text, Book into) {
            tape = text;
            book = into;
        }

        boolean readsAll(Book into) {
            book = into;
            fault = 0;
            place = NONE;
            open = 0;
            book.empty();
            tape.rewind();
            for (int i = 0; i <= MOST_BYTES && tape.token != END; i++) {
                boolean sound;
                if (tape.token == OWN + KIND) {
                    sound = readsKind();
                } else if (tape.token == OWN + EVEN) {
                    sound = readsEven();
                } else {
                    sound = readsClause(tape.token - OWN);
                }
                if (!sound) {
                    return false;
                }
            }
            return true;
        }

        private boolean fails(int number) {
            fault = number;
            place = tape.start;
            return false;
        }

        private boolean passes(int token) {
            if (tape.token != token) {
                return fails(1);
            }
            tape.step();
            return true;
        }

        private boolean readsKind() {
            if (book.kinds >= MOST_KINDS) {
                return fails(5);
            }
            tape.step();
            if (tape.token != NAME) {
                return fails(1);
            }
            if (book.kindOf(tape.word) != NONE || book.markOf(tape.word) != NONE) {
                return fails(2);
            }
            int kind = book.kinds;
            book.kindName[kind] = tape.word;
            book.kinds++;
            tape.step();
            return readsNumber(WORTH, 1, MOST_WORTH, book.worth, kind)
                    && readsNumber(PRICE, 0, 1000, book.price, kind)
                    && readsNumber(AT, 0, 200, book.shelf, kind)
                    && readsMarks(kind) && passes(';');
        }

        private boolean readsNumber(int first, int least, int most, int[] into, int i) {
            if (!passes(OWN + first)) {
                return false;
            }
            if (tape.token != NUMBER) {
                return fails(1);
            }
            if (!within(tape.number, least, most)) {
                return fails(4);
            }
            into[i] = tape.number;
            tape.step();
            return true;
        }

        private boolean readsMarks(int kind) {
            if (tape.token != OWN + IS) {
                return true;
            }
            for (int i = 0; i <= MOST_BYTES; i++) {
                tape.step();
                if (!readsMark(kind)) {
                    return false;
                }
                if (tape.token != ',') {
                    return true;
                }
            }
            return true;
        }

        private boolean readsMark(int kind) {
            if (tape.token != NAME) {
                return fails(1);
            }
            if (book.kindOf(tape.word) != NONE) {
                return fails(2);
            }
            int mark = book.markOf(tape.word);
            if (mark == NONE) {
                if (book.marks >= MOST_MARKS) {
                    return fails(5);
                }
                mark = book.marks;
                book.addMark(tape.word);
            } else if ((book.markKinds[mark] >> kind & 1) != 0) {
                return fails(2);
            }
            book.markKinds[mark] |= 1 << kind;
            tape.step();
            return true;
        }

        private boolean readsEven() {
            if (book.others >= MOST_OTHERS) {
                return fails(5);
            }
            if (!readsNumber(EVEN, 0, 1000, book.sumAt, book.others)) {
                return false;
            }
            book.even = book.sumAt[book.others];
            book.addOther(EVEN, book.size, book.size, book.size);
            return passes(';');
        }

        private boolean readsClause(int first) {
            if (first != NEVER && first != LIKES && first != GIFTS) {
                return fails(1);
            }
            if (book.others >= MOST_OTHERS) {
                return fails(5);
            }
            tape.step();
            int sum = book.size;
            if (first != NEVER && !readsSum()) {
                return false;
            }
            int which = book.size;
            if (first == LIKES && !passes(OWN + OF)) {
                return false;
            }
            if (first != GIFTS && !readsEither(true)) {
                return false;
            }
            int test = book.size;
            if (!passes(OWN + FOR) || !readsEither(false)) {
                return false;
            }
            book.addOther(first, sum, which, test);
            return passes(';');
        }

        /** A which and a test are built alike; only their smallest parts are not. */
        private boolean readsEither(boolean ofKinds) {
            if (!readsBoth(ofKinds)) {
                return false;
            }
            for (int i = 0; i <= MOST_BYTES && tape.token == OWN + OR; i++) {
                tape.step();
                if (!readsBoth(ofKinds)) {
                    return false;
                }
                book.addCode(Book.OR_CODE, 0);
            }
            return true;
        }

        private boolean readsBoth(boolean ofKinds) {
            if (!readsSingle(ofKinds)) {
                return false;
            }
            for (int i = 0; i <= MOST_BYTES && tape.token == OWN + AND; i++) {
                tape.step();
                if (!readsSingle(ofKinds)) {
                    return false;
                }
                book.addCode(Book.AND_CODE, 0);
            }
            return true;
        }

        private boolean readsSingle(boolean ofKinds) {
            boolean not = false;
            // a loop, as a text has room for more of them than calls may be open
            for (int i = 0; i <= MOST_BYTES && tape.token == OWN + NOT; i++) {
                not = !not;
                tape.step();
            }
            boolean sound;
            if (tape.token == '[') {
                sound = opens() && readsEither(ofKinds) && passes(']');
                open--;
            } else if (ofKinds) {
                sound = readsKinds();
            } else if (tape.token == OWN + ALL || tape.token == OWN + WISH) {
                sound = readsFact();
            } else {
                sound = readsSum();
                int code = comparison(tape.token);
                sound = sound && passesComparison(code) && readsSum();
                book.addCode(code, 0);
            }
            if (not) {
                book.addCode(Book.NOT_CODE, 0);
            }
            return sound;
        }

        private boolean opens() {
            if (open >= MOST_OPEN) {
                return fails(5);
            }
            open++;
            tape.step();
            return true;
        }

        private static int comparison(int sign) {
            if (sign == '<') {
                return Book.LESS_CODE;
            }
            if (sign == '>') {
                return Book.MORE_CODE;
            }
            return sign == '=' ? Book.LIKE_CODE : NONE;
        }

        private boolean passesComparison(int code) {
            if (code == NONE) {
                return fails(1);
            }
            tape.step();
            return true;
        }

        private boolean readsKinds() {
            if (tape.token == OWN + ANY) {
                book.addCode(Book.FULL_CODE, 0);
            } else if (tape.token == NAME) {
                int kind = book.kindOf(tape.word);
                int mark = book.markOf(tape.word);
                if (kind == NONE && mark == NONE) {
                    return fails(3);
                }
                book.addCode(kind != NONE ? Book.KIND_CODE : Book.MARK_CODE, kind != NONE ? kind : mark);
            } else {
                return fails(1);
            }
            tape.step();
            return true;
        }

        private boolean readsFact() {
            if (tape.token == OWN + ALL) {
                book.addCode(Book.FULL_CODE, 0);
            } else {
                tape.step();
                if (tape.token != NAME) {
                    return fails(1);
                }
                book.addAsked(tape.word);
            }
            tape.step();
            return true;
        }

        private boolean readsSum() {
            if (!readsPart()) {
                return false;
            }
            for (int i = 0; i <= MOST_BYTES; i++) {
                int sign = tape.token;
                if (sign != '+' && sign != '-' && sign != '*') {
                    return true;
                }
                tape.step();
                if (!readsPart()) {
                    return false;
                }
                book.addCode(sign == '+' ? Book.ADD_CODE : sign == '-' ? Book.TAKE_CODE : Book.TIMES_CODE, 0);
            }
            return true;
        }

        private boolean readsPart() {
            if (tape.token == '(') {
                boolean sound = opens() && readsSum() && passes(')');
                open--;
                return sound;
            }
            if (tape.token == NUMBER) {
                book.addCode(Book.NUMBER_CODE, tape.number);
            } else if (within(tape.token, OWN + AGE, OWN + WISHES)) {
                book.addCode(Book.FACT_CODE, tape.token - OWN - AGE);
            } else {
                return fails(1);
            }
            tape.step();
            return true;
        }
    }

    /** All acts, in the order in which they were told. */
    private static final class Ledger {
        static final int DETAILS = 5;

        int acts;
        int reports;
        final int[] what = new int[MOST_ACTS + 1];
        final int[] detail = new int[(MOST_ACTS + 1) * DETAILS];
        final long[] wishWord = new long[(MOST_ACTS + 1) * TOLD_WISHES];
        final int[] wishes = new int[MOST_ACTS + 1];
        /** The act that tells that an act is void; 0 without. */
        final int[] voidBy = new int[MOST_ACTS + 1];
        /** The wishes of the report that is being told. */
        final long[] heard = new long[TOLD_WISHES];

        void empty() {
            acts = 0;
            reports = 0;
        }

        boolean isFull() {
            return acts >= MOST_ACTS;
        }

        /** The caller has seen that there is room. */
        int add(int whatAct, int first, int second, int third) {
            acts++;
            what[acts] = whatAct;
            voidBy[acts] = 0;
            wishes[acts] = 0;
            detail[acts * DETAILS] = first;
            detail[acts * DETAILS + 1] = second;
            detail[acts * DETAILS + 2] = third;
            return acts;
        }

        int addReport(int code, int age, int school, int house, int day, int told) {
            int act = add(REPORT_ACT, code, age, school);
            detail[act * DETAILS + 3] = house;
            detail[act * DETAILS + 4] = day;
            wishes[act] = told;
            for (int i = 0; i < told && i < TOLD_WISHES; i++) {
                wishWord[act * TOLD_WISHES + i] = heard[i];
            }
            reports++;
            return act;
        }

        int addVoid(int act) {
            int teller = add(VOID_ACT, act, 0, 0);
            voidBy[act] = teller;
            return teller;
        }

        boolean isKnown(int act, int now) {
            return act <= now && (voidBy[act] == 0 || voidBy[act] > now);
        }

        int detailOf(int act, int i) {
            return detail[act * DETAILS + i];
        }
    }

    /** What is known at an act: children, what comes, and what is called back. */
    private static final class Known {
        static final int NEVER_DAY = DAYS + 1;

        /** The act at which it was looked; NONE if it must be looked again. */
        int now = NONE;
        /** Grows with each look, so that others see that theirs is old. */
        int version;
        int count;
        final int[] code = new int[MOST_CHILDREN];
        final int[] age = new int[MOST_CHILDREN];
        final int[] least = new int[MOST_CHILDREN];
        final int[] most = new int[MOST_CHILDREN];
        final int[] school = new int[MOST_CHILDREN];
        final int[] house = new int[MOST_CHILDREN];
        final int[] day = new int[MOST_CHILDREN];
        final int[] reports = new int[MOST_CHILDREN];
        final int[] wishes = new int[MOST_CHILDREN];
        final long[] wishWord = new long[MOST_CHILDREN * KEPT_WISHES];
        final int[] childOf = new int[MOST_ACTS + 1];
        final int[] come = new int[MOST_KINDS * (DAYS + 1)];
        /** The first day on which a kind is called back. */
        final int[] calledDay = new int[MOST_KINDS];

        void forget() {
            now = NONE;
        }

        void look(Ledger ledger, int act) {
            if (now == act) {
                return;
            }
            now = act;
            version++;
            count = 0;
            Arrays.fill(come, 0);
            Arrays.fill(calledDay, NEVER_DAY);
            for (int i = 1; i <= act; i++) {
                childOf[i] = NONE;
                if (ledger.isKnown(i, act)) {
                    learn(ledger, i);
                }
            }
        }

        private void learn(Ledger ledger, int act) {
            int first = ledger.detailOf(act, 0);
            int second = ledger.detailOf(act, 1);
            switch (ledger.what[act]) {
                case REPORT_ACT:
                    learnReport(ledger, act, first);
                    break;
                case GIFTS_ACT:
                    come[first * (DAYS + 1) + second] += ledger.detailOf(act, 2);
                    break;
                case CALL_ACT:
                    calledDay[first] = Math.min(calledDay[first], second);
                    break;
                default:
                    break;
            }
        }

        private void learnReport(Ledger ledger, int act, int told) {
            int child = find(told);
            int years = ledger.detailOf(act, 1);
            if (child == NONE) {
                if (count >= MOST_CHILDREN) {
                    return;
                }
                child = count;
                count++;
                code[child] = told;
                least[child] = years;
                most[child] = years;
                reports[child] = 0;
                wishes[child] = 0;
            }
            childOf[act] = child;
            age[child] = years;
            least[child] = Math.min(least[child], years);
            most[child] = Math.max(most[child], years);
            school[child] = ledger.detailOf(act, 2);
            house[child] = ledger.detailOf(act, 3);
            day[child] = ledger.detailOf(act, 4);
            reports[child]++;
            for (int i = 0; i < ledger.wishes[act]; i++) {
                learnWish(child, ledger.wishWord[act * TOLD_WISHES + i]);
            }
        }

        private int find(int told) {
            if (told == 0) {
                return NONE;
            }
            for (int i = 0; i < count; i++) {
                if (code[i] == told) {
                    return i;
                }
            }
            return NONE;
        }

        private void learnWish(int child, long word) {
            if (wishes[child] < KEPT_WISHES && !wants(child, word)) {
                wishWord[child * KEPT_WISHES + wishes[child]] = word;
                wishes[child]++;
            }
        }

        boolean wants(int child, long word) {
            for (int i = 0; i < wishes[child]; i++) {
                if (wishWord[child * KEPT_WISHES + i] == word) {
                    return true;
                }
            }
            return false;
        }

        int mates(int child) {
            if (house[child] == 0) {
                return 1;
            }
            int sum = 0;
            for (int i = 0; i < count; i++) {
                if (house[i] == house[child]) {
                    sum++;
                }
            }
            return sum;
        }

        int doubts() {
            int sum = 0;
            for (int i = 0; i < count; i++) {
                for (int j = 0; j < i; j++) {
                    if ((code[i] == 0 || code[j] == 0) && areAlike(i, j)) {
                        sum++;
                    }
                }
            }
            return sum;
        }

        private boolean areAlike(int i, int j) {
            return house[i] != 0 && house[i] == house[j] && school[i] == school[j] && age[i] == age[j];
        }

        int fact(int child, int what) {
            switch (what) {
                case 0:
                    return code[child];
                case 1:
                    return age[child];
                case 2:
                    return most[child] - least[child];
                case 3:
                    return school[child];
                case 4:
                    return house[child];
                case 5:
                    return day[child];
                case 6:
                    return wishes[child];
                case 7:
                    return mates(child);
                case 8:
                    return reports[child];
                default:
                    return NONE;
            }
        }

        void addCome(int[] sums, int onDay, int kinds) {
            for (int kind = 0; kind < kinds; kind++) {
                sums[kind] += come[kind * (DAYS + 1) + onDay];
            }
        }
    }

    /** Reckons what the rules say of each child. */
    private static final class Judge {
        static final int STACK = 64;
        static final int MOST_SUM = 1000000;

        final int[] due = new int[MOST_CHILDREN];
        final int[] may = new int[MOST_CHILDREN];
        final int[] points = new int[MOST_CHILDREN * MOST_KINDS];
        /** The version of the known at which each child was weighed. */
        final int[] weighed = new int[MOST_CHILDREN];
        /** Of the child that is weighed: age, ages, school, house, wishes. */
        final int[] facts = new int[WISHES - AGE + 1];
        /** For each wish that the rules ask for, whether that child has it. */
        final int[] granted = new int[Book.MOST_ASKED];
        final int[] stack = new int[STACK];

        void chooseKinds(Book book) {
            int every = (1 << book.kinds) - 1;
            for (int i = 0; i < book.others; i++) {
                book.which[i] = value(book, book.whichAt[i], book.testAt[i], every);
            }
        }

        void weigh(Book book, Known known, int child) {
            if (weighed[child] == known.version) {
                return;
            }
            weighed[child] = known.version;
            gatherFacts(book, known, child);
            due[child] = 1;
            may[child] = (1 << book.kinds) - 1;
            for (int kind = 0; kind < book.kinds; kind++) {
                points[child * MOST_KINDS + kind] = 0;
                if (known.calledDay[kind] <= known.day[child]) {
                    may[child] &= ~(1 << kind);
                }
            }
            for (int i = 0; i < book.others; i++) {
                if (book.what[i] != EVEN && value(book, book.testAt[i], book.endAt[i], 1) != 0) {
                    obey(book, i, child);
                }
            }
        }

        private void gatherFacts(Book book, Known known, int child) {
            facts[0] = known.age[child];
            facts[1] = known.most[child] - known.least[child];
            facts[2] = known.school[child];
            facts[3] = known.mates(child);
            facts[4] = known.wishes[child];
            for (int i = 0; i < book.askedCount; i++) {
                granted[i] = known.wants(child, book.asked[i]) ? 1 : 0;
            }
        }

        private void obey(Book book, int i, int child) {
            if (book.what[i] == NEVER) {
                may[child] &= ~book.which[i];
                return;
            }
            int sum = value(book, book.sumAt[i], book.whichAt[i], 1);
            if (book.what[i] == GIFTS) {
                due[child] = Math.max(0, Math.min(MOST_DUE, sum));
                return;
            }
            for (int kind = 0; kind < book.kinds; kind++) {
                if ((book.which[i] >> kind & 1) != 0) {
                    points[child * MOST_KINDS + kind] += sum;
                }
            }
        }

        /** Full is what holds of all: 1 in a test, the bits of all kinds in a which. */
        private int value(Book book, int from, int to, int full) {
            int top = 0;
            for (int i = from; i < to; i++) {
                int kindOfCode = book.code[i] & 15;
                if (kindOfCode < Book.NOT_CODE) {
                    if (top < STACK) {
                        stack[top] = leaf(book, kindOfCode, book.code[i] >> 4, full);
                        top++;
                    }
                } else if (kindOfCode == Book.NOT_CODE) {
                    if (top > 0) {
                        stack[top - 1] ^= full;
                    }
                } else if (top > 1) {
                    top--;
                    stack[top - 1] = joined(kindOfCode, stack[top - 1], stack[top]);
                }
            }
            return top > 0 ? stack[0] : 0;
        }

        private int leaf(Book book, int kindOfCode, int value, int full) {
            switch (kindOfCode) {
                case Book.FACT_CODE:
                    return facts[value];
                case Book.FULL_CODE:
                    return full;
                case Book.WISH_CODE:
                    return granted[value];
                case Book.KIND_CODE:
                    return 1 << value;
                case Book.MARK_CODE:
                    return book.markKinds[value];
                default:
                    return value;
            }
        }

        private static int joined(int kindOfCode, int a, int b) {
            switch (kindOfCode) {
                case Book.AND_CODE:
                    return a & b;
                case Book.OR_CODE:
                    return a | b;
                case Book.LESS_CODE:
                    return a < b ? 1 : 0;
                case Book.MORE_CODE:
                    return a > b ? 1 : 0;
                case Book.LIKE_CODE:
                    return a == b ? 1 : 0;
                case Book.ADD_CODE:
                    return bounded(a + b);
                case Book.TAKE_CODE:
                    return bounded(a - b);
                default:
                    return bounded((long) a * b);
            }
        }

        private static int bounded(long sum) {
            return (int) Math.max(-MOST_SUM, Math.min(MOST_SUM, sum));
        }
    }

    /**
     * The children among whom gifts are dealt, as rows by their days, and what is left for each day.
     * A kind may be taken on a day if something of it is left for that day and all days behind it.
     */
    private static final class Floor {
        int kinds;
        int rows;
        /** Slots are the days that have rows. */
        int slots;
        final int[] slot = new int[MOST_CHILDREN];
        final int[] firstRow = new int[DAYS + 1];
        final int[] rowOf = new int[MOST_CHILDREN];
        final int[] due = new int[MOST_CHILDREN];
        final int[] may = new int[MOST_CHILDREN];
        final int[] has = new int[MOST_CHILDREN];
        final int[] used = new int[MOST_CHILDREN];
        final int[] points = new int[MOST_CHILDREN * MOST_KINDS];
        final int[] stock = new int[MOST_KINDS * DAYS];

        void clear(int kindCount) {
            kinds = kindCount;
            rows = 0;
            slots = 0;
            firstRow[0] = 0;
            Arrays.fill(rowOf, NONE);
        }

        void addDay(Known known, Judge judge, int day, int[] came) {
            int before = rows;
            for (int i = 0; i < known.count; i++) {
                if (known.day[i] == day && judge.due[i] > 0) {
                    addRow(judge, i);
                }
            }
            if (rows > before && slots < DAYS) {
                for (int kind = 0; kind < kinds; kind++) {
                    stock[kind * DAYS + slots] = came[kind];
                }
                slots++;
                firstRow[slots] = rows;
            }
        }

        private void addRow(Judge judge, int i) {
            if (rows >= MOST_CHILDREN) {
                return;
            }
            slot[rows] = slots;
            rowOf[i] = rows;
            due[rows] = judge.due[i];
            may[rows] = judge.may[i];
            has[rows] = 0;
            used[rows] = 0;
            for (int kind = 0; kind < kinds; kind++) {
                points[rows * MOST_KINDS + kind] = judge.points[i * MOST_KINDS + kind];
            }
            rows++;
        }

        int pointsOf(int row, int kind) {
            return points[row * MOST_KINDS + kind];
        }

        void take(int row, int kind) {
            has[row] |= 1 << kind;
            used[row]++;
            for (int s = slot[row]; s < slots; s++) {
                stock[kind * DAYS + s]--;
            }
        }

        void drop(int row, int kind) {
            has[row] &= ~(1 << kind);
            used[row]--;
            for (int s = slot[row]; s < slots; s++) {
                stock[kind * DAYS + s]++;
            }
        }

        /** Behind a deal of one day alone: how many were given; the rest of each kind is put into the row. */
        int takeRest(int[] rest) {
            int sum = 0;
            for (int kind = 0; kind < kinds; kind++) {
                sum += rest[kind] - stock[kind * DAYS];
                rest[kind] = stock[kind * DAYS];
            }
            return sum;
        }
    }

    /**
     * Deals as many gifts as can be, with the greatest sum of points: rows come one by one, and for each
     * gift due the cheapest chain of changes is made (a row takes a kind, perhaps one that another has,
     * which takes another kind instead ..). A deal that was best stays best by that.
     */
    private static final class Filler {
        /** Far above what any chain of changes can cost. */
        static final long FAR = 1L << 60;
        /** In the place of a row: what is left takes a kind back. */
        static final int NOBODY = -2;
        /** A power of two above the number of rows, for a ring. */
        static final int RING = 64;

        final Floor floor;
        /** What it costs at least (in points lost) till a row is without one of its kinds; which one that is. */
        final long[] rowCost = new long[MOST_CHILDREN];
        final int[] dropped = new int[MOST_CHILDREN];
        /** What it costs at least till a kind is wanted on the day of a slot; the row that takes it. */
        final long[] kindCost = new long[MOST_KINDS * DAYS];
        final int[] taker = new int[MOST_KINDS * DAYS];
        /** The same for the places from which all gifts due, and all gifts left, are counted. */
        long dueCost;
        long leftCost;
        final int[] ring = new int[RING];
        final int[] waiting = new int[MOST_CHILDREN];
        int head;
        int tail;

        Filler(Floor on) {
            floor = on;
        }

        void fill() {
            for (int row = 0; row < floor.rows; row++) {
                boolean more = true;
                for (int i = 0; i < floor.due[row] && more; i++) {
                    more = serves(row);
                }
            }
        }

        private boolean serves(int row) {
            Arrays.fill(rowCost, FAR);
            Arrays.fill(kindCost, FAR);
            startQueue();
            rowCost[row] = 0;
            enqueue(row);
            runQueue();
            int kind = cheapestLeft();
            if (kind != NONE) {
                int last = taker[kind * DAYS + floor.slots - 1];
                floor.take(last, kind);
                change(row, last);
                return true;
            }
            int loser = cheapestLoser();
            if (loser != NONE) {
                change(row, loser);
            }
            return loser != NONE;
        }

        private int cheapestLeft() {
            int best = NONE;
            long least = FAR;
            for (int kind = 0; kind < floor.kinds; kind++) {
                int top = kind * DAYS + floor.slots - 1;
                if (floor.stock[top] > 0 && kindCost[top] < least) {
                    least = kindCost[top];
                    best = kind;
                }
            }
            return best;
        }

        /** The row that goes without, if that is worth it. */
        private int cheapestLoser() {
            int best = NONE;
            long least = 0;
            for (int row = 0; row < floor.rows; row++) {
                if (rowCost[row] < least) {
                    least = rowCost[row];
                    best = row;
                }
            }
            return best;
        }

        private void change(int first, int last) {
            int row = last;
            for (int i = 0; i < PATIENCE && row != first; i++) {
                int kind = dropped[row];
                int next = taker[kind * DAYS + floor.slot[row]];
                floor.drop(row, kind);
                floor.take(next, kind);
                row = next;
            }
        }

        private void startQueue() {
            head = 0;
            tail = 0;
            Arrays.fill(waiting, 0);
        }

        private void enqueue(int row) {
            if (waiting[row] == 0) {
                waiting[row] = 1;
                ring[tail & RING - 1] = row;
                tail++;
            }
        }

        private void runQueue() {
            for (int i = 0; i < PATIENCE && head != tail; i++) {
                int row = ring[head & RING - 1];
                head++;
                waiting[row] = 0;
                int open = floor.may[row] & ~floor.has[row];
                for (int kind = 0; kind < floor.kinds; kind++) {
                    if ((open >> kind & 1) != 0) {
                        want(row, kind, floor.slot[row], rowCost[row] - floor.pointsOf(row, kind));
                    }
                }
            }
        }

        /** A kind that one may get on a day may come from any day ahead, and from days behind while some is left. */
        private void want(int row, int kind, int slot, long cost) {
            int base = kind * DAYS;
            for (int s = slot; s >= 0 && kindCost[base + s] > cost; s--) {
                settle(row, kind, s, cost);
            }
            for (int s = slot + 1; s < floor.slots && floor.stock[base + s - 1] > 0
                    && kindCost[base + s] > cost; s++) {
                settle(row, kind, s, cost);
            }
        }

        private void settle(int row, int kind, int slot, long cost) {
            kindCost[kind * DAYS + slot] = cost;
            taker[kind * DAYS + slot] = row;
            for (int r = floor.firstRow[slot]; r < floor.firstRow[slot + 1]; r++) {
                if ((floor.has[r] >> kind & 1) != 0) {
                    long there = cost + floor.pointsOf(r, kind);
                    if (there < rowCost[r]) {
                        rowCost[r] = there;
                        dropped[r] = kind;
                        enqueue(r);
                    }
                }
            }
        }

        /**
         * Finds costs for all places of a best deal such that no change is cheaper than their difference:
         * the changes that cost nothing on the whole are then those all of whose steps are just that.
         */
        void level() {
            Arrays.fill(rowCost, 0);
            Arrays.fill(kindCost, 0);
            dueCost = 0;
            leftCost = 0;
            startQueue();
            for (int row = 0; row < floor.rows; row++) {
                for (int kind = 0; kind < floor.kinds; kind++) {
                    if ((floor.has[row] >> kind & 1) != 0) {
                        rowCost[row] = Math.min(rowCost[row], floor.pointsOf(row, kind));
                    }
                }
                enqueue(row);
            }
            for (int i = 0; i < PATIENCE && head != tail; i++) {
                runQueue();
                levelDue();
                levelLeft();
            }
        }

        private void levelDue() {
            for (int row = 0; row < floor.rows; row++) {
                if (floor.used[row] > 0) {
                    dueCost = Math.min(dueCost, rowCost[row]);
                }
            }
            for (int row = 0; row < floor.rows; row++) {
                if (floor.used[row] < floor.due[row] && rowCost[row] > dueCost) {
                    rowCost[row] = dueCost;
                    enqueue(row);
                }
            }
        }

        private void levelLeft() {
            int last = floor.slots - 1;
            for (int kind = 0; kind < floor.kinds; kind++) {
                if (floor.stock[kind * DAYS + last] > 0) {
                    leftCost = Math.min(leftCost, kindCost[kind * DAYS + last]);
                }
            }
            for (int kind = 0; kind < floor.kinds; kind++) {
                want(NOBODY, kind, last, leftCost);
            }
        }
    }

    /** Deals, and makes the first of all best deals out of one of them, by changes that cost nothing. */
    private static final class Ranker {
        /** In the place of a kind: a row gets one more, as another one gets one less. */
        static final int ONE_MORE = -3;

        final Floor floor;
        /** Its costs are those that it found at last, by level(). */
        final Filler filler;
        int goal;
        /** For each row the kinds that are settled for it, as bits. */
        final int[] fixed = new int[MOST_CHILDREN];
        /** Seen is what bears the stamp; a new stamp clears all. */
        int stamp;
        final int[] rowSeen = new int[MOST_CHILDREN];
        final int[] dropped = new int[MOST_CHILDREN];
        final int[] kindSeen = new int[MOST_KINDS * DAYS];
        final int[] taker = new int[MOST_KINDS * DAYS];
        final int[] line = new int[MOST_CHILDREN];
        int head;
        int tail;
        /** The row that may go with one less, the kind of which one more may be taken; NONE till one is seen. */
        int loser;
        int leftKind;
        boolean dueSpread;
        boolean leftSpread;

        Ranker(Floor on, Filler by) {
            floor = on;
            filler = by;
        }

        void deal() {
            if (floor.rows == 0) {
                return;
            }
            filler.fill();
            filler.level();
            Arrays.fill(fixed, 0);
            for (int child = 0; child < MOST_CHILDREN; child++) {
                if (floor.rowOf[child] != NONE) {
                    rankRow(floor.rowOf[child]);
                }
            }
        }

        private void rankRow(int row) {
            goal = row;
            freshSearch();
            for (int kind = 0; kind < floor.kinds && canChange(row); kind++) {
                fixed[row] |= 1 << kind;
                if ((floor.has[row] >> kind & 1) == 0 && mayTake(row, kind) && finds(kind)) {
                    turn();
                    freshSearch();
                }
            }
            fixed[row] = (1 << floor.kinds) - 1;
        }

        private boolean canChange(int row) {
            return floor.used[row] < floor.due[row] || (floor.has[row] & ~fixed[row]) != 0;
        }

        private void freshSearch() {
            stamp++;
            head = 0;
            tail = 0;
            loser = NONE;
            leftKind = NONE;
            dueSpread = false;
            leftSpread = false;
        }

        /** Whether a take would be one that costs nothing, to a place that was not seen. */
        private boolean mayTake(int row, int kind) {
            int place = kind * DAYS + floor.slot[row];
            return (floor.may[row] >> kind & 1) != 0 && kindSeen[place] != stamp
                    && filler.kindCost[place] == filler.rowCost[row] - floor.pointsOf(row, kind);
        }

        /** What was seen in vain for one kind stays in vain for the next one of the same row. */
        private boolean finds(int kind) {
            spread(goal, kind, floor.slot[goal]);
            for (int i = 0; i < PATIENCE && rowSeen[goal] != stamp; i++) {
                if (head < tail) {
                    widen(line[head]);
                    head++;
                } else if (loser != NONE && !dueSpread) {
                    dueSpread = true;
                    spreadDue();
                } else if (leftKind != NONE && !leftSpread) {
                    leftSpread = true;
                    spreadLeft();
                } else {
                    return false;
                }
            }
            return rowSeen[goal] == stamp;
        }

        private void widen(int row) {
            int open = ~floor.has[row] & ~fixed[row];
            for (int kind = 0; kind < floor.kinds; kind++) {
                if ((open >> kind & 1) != 0 && mayTake(row, kind)) {
                    spread(row, kind, floor.slot[row]);
                }
            }
        }

        private void spread(int row, int kind, int slot) {
            int base = kind * DAYS;
            long cost = filler.kindCost[base + slot];
            for (int s = slot; s >= 0 && isFree(base + s, cost); s--) {
                see(row, kind, s);
            }
            for (int s = slot + 1; s < floor.slots && floor.stock[base + s - 1] > 0 && isFree(base + s, cost); s++) {
                see(row, kind, s);
            }
        }

        private boolean isFree(int place, long cost) {
            return kindSeen[place] != stamp && filler.kindCost[place] == cost;
        }

        private void see(int row, int kind, int slot) {
            int place = kind * DAYS + slot;
            long cost = filler.kindCost[place];
            kindSeen[place] = stamp;
            taker[place] = row;
            if (slot == floor.slots - 1 && leftKind == NONE && floor.stock[place] > 0 && cost == filler.leftCost) {
                leftKind = kind;
            }
            for (int r = floor.firstRow[slot]; r < floor.firstRow[slot + 1]; r++) {
                boolean has = (floor.has[r] & ~fixed[r] & 1 << kind) != 0;
                if (has && rowSeen[r] != stamp && filler.rowCost[r] == cost + floor.pointsOf(r, kind)) {
                    seeRow(r, kind);
                }
            }
        }

        private void seeRow(int row, int kind) {
            rowSeen[row] = stamp;
            dropped[row] = kind;
            line[tail] = row;
            tail++;
            if (loser == NONE && kind != ONE_MORE && filler.rowCost[row] == filler.dueCost) {
                loser = row;
            }
        }

        private void spreadDue() {
            for (int row = 0; row < floor.rows; row++) {
                if (floor.used[row] < floor.due[row] && rowSeen[row] != stamp
                        && filler.rowCost[row] == filler.dueCost) {
                    seeRow(row, ONE_MORE);
                }
            }
        }

        private void spreadLeft() {
            int last = floor.slots - 1;
            for (int kind = 0; kind < floor.kinds; kind++) {
                if (isFree(kind * DAYS + last, filler.leftCost)) {
                    spread(Filler.NOBODY, kind, last);
                }
            }
        }

        private void turn() {
            int row = goal;
            for (int i = 0; i < PATIENCE; i++) {
                if (dropped[row] == ONE_MORE) {
                    row = loser;
                }
                int kind = dropped[row];
                int next = taker[kind * DAYS + floor.slot[row]];
                floor.drop(row, kind);
                if (next == Filler.NOBODY) {
                    kind = leftKind;
                    next = taker[kind * DAYS + floor.slots - 1];
                }
                floor.take(next, kind);
                row = next;
                if (row == goal) {
                    return;
                }
            }
        }
    }

    /** The latest giving, with all as it was then, and what was bought behind it. */
    private static final class Giving {
        static final int MOST_SETS = 1 << MOST_KINDS;

        boolean there;
        int count;
        final int[] age = new int[MOST_CHILDREN];
        final int[] house = new int[MOST_CHILDREN];
        final int[] day = new int[MOST_CHILDREN];
        final int[] due = new int[MOST_CHILDREN];
        final int[] may = new int[MOST_CHILDREN];
        /** How many gifts each child was given. */
        final int[] dealt = new int[MOST_CHILDREN];
        /** The kinds that each child has, as bits, bought ones too. */
        final int[] bag = new int[MOST_CHILDREN];
        final int[] rest = new int[MOST_KINDS];
        int pointsSum;
        /** What was spent; NONE ahead of it. */
        int cost;
        final int[] offer = new int[MOST_CHILDREN];
        final int[] offerCost = new int[MOST_CHILDREN];
        /** Sets of kinds that could be bought, with their sums. */
        final int[] set = new int[MOST_SETS];
        final int[] setWorth = new int[MOST_SETS];
        final int[] setPrice = new int[MOST_SETS];

        int keep(Book book, Known known, Judge judge, Floor floor, int[] came) {
            there = true;
            cost = NONE;
            count = known.count;
            pointsSum = 0;
            for (int kind = 0; kind < MOST_KINDS; kind++) {
                rest[kind] = came[kind];
            }
            int sum = 0;
            for (int i = 0; i < count; i++) {
                age[i] = known.age[i];
                house[i] = known.house[i];
                day[i] = known.day[i];
                due[i] = judge.due[i];
                may[i] = judge.may[i];
                int row = floor.rowOf[i];
                bag[i] = row == NONE ? 0 : floor.has[row];
                dealt[i] = Integer.bitCount(bag[i]);
                sum += dealt[i];
                tally(book, judge, i);
            }
            return sum;
        }

        private void tally(Book book, Judge judge, int i) {
            for (int kind = 0; kind < book.kinds; kind++) {
                if ((bag[i] >> kind & 1) != 0) {
                    rest[kind]--;
                    pointsSum += judge.points[i * MOST_KINDS + kind];
                }
            }
        }

        boolean isChild(int child) {
            return there && child >= 0 && child < count;
        }

        int total(int what) {
            if (what == 0) {
                return pointsSum;
            }
            int sum = 0;
            if (what == 1) {
                for (int i = 0; i < count; i++) {
                    sum += dealt[i] == due[i] ? 1 : 0;
                }
                return sum;
            }
            if (what == 3) {
                for (int kind = 0; kind < MOST_KINDS; kind++) {
                    sum += rest[kind];
                }
                return sum;
            }
            return what == 2 ? lacking(0, MOST_AGE) : NONE;
        }

        int lacking(int from, int to) {
            int sum = 0;
            for (int i = 0; i < count; i++) {
                if (age[i] >= from && age[i] <= to) {
                    sum += due[i] - dealt[i];
                }
            }
            return sum;
        }

        private int worthOf(int child, Book book) {
            int sum = 0;
            for (int kind = 0; kind < book.kinds; kind++) {
                if ((bag[child] >> kind & 1) != 0) {
                    sum += book.worth[kind];
                }
            }
            return sum;
        }

        private int greatest(int child, Book book) {
            int most = worthOf(child, book);
            if (house[child] == 0) {
                return most;
            }
            for (int i = 0; i < count; i++) {
                if (house[i] == house[child]) {
                    most = Math.max(most, worthOf(i, book));
                }
            }
            return most;
        }

        private boolean isRight(int child, Book book) {
            return Integer.bitCount(bag[child]) >= due[child]
                    && worthOf(child, book) >= greatest(child, book) - book.even;
        }

        int countRight(Book book) {
            int sum = 0;
            for (int i = 0; i < count; i++) {
                sum += isRight(i, book) ? 1 : 0;
            }
            return sum;
        }

        int costOf(int child, Book book) {
            if (isRight(child, book)) {
                return 0;
            }
            int best = cheapest(child, book);
            return best == NONE ? NONE : setPrice[best];
        }

        /** The place of the best set that makes a child right; NONE without. */
        private int cheapest(int child, Book book) {
            int most = greatest(child, book);
            int sets = listSets(child, book, most == 0 ? MOST_KINDS * MOST_WORTH : most);
            int lacking = due[child] - Integer.bitCount(bag[child]);
            int best = NONE;
            for (int i = 0; i < sets; i++) {
                boolean enough = setWorth[i] >= most - book.even && Integer.bitCount(set[i]) >= lacking;
                if (enough && (best == NONE || isBetter(i, best))) {
                    best = i;
                }
            }
            return best;
        }

        private int listSets(int child, Book book, int most) {
            set[0] = 0;
            setWorth[0] = worthOf(child, book);
            setPrice[0] = 0;
            int sets = 1;
            int open = may[child] & ~bag[child];
            for (int kind = 0; kind < book.kinds; kind++) {
                int before = (open >> kind & 1) != 0 && book.price[kind] > 0 ? sets : 0;
                for (int i = 0; i < before && sets < MOST_SETS; i++) {
                    if (setWorth[i] + book.worth[kind] <= most) {
                        set[sets] = set[i] | 1 << kind;
                        setWorth[sets] = setWorth[i] + book.worth[kind];
                        setPrice[sets] = setPrice[i] + book.price[kind];
                        sets++;
                    }
                }
            }
            return sets;
        }

        private boolean isBetter(int i, int j) {
            if (setPrice[i] != setPrice[j]) {
                return setPrice[i] < setPrice[j];
            }
            int kindsI = Integer.bitCount(set[i]);
            int kindsJ = Integer.bitCount(set[j]);
            if (kindsI != kindsJ) {
                return kindsI < kindsJ;
            }
            int differing = set[i] ^ set[j];
            return (set[i] & differing & -differing) != 0;
        }

        int buy(int coins, Book book) {
            for (int i = 0; i < count; i++) {
                int best = isRight(i, book) ? NONE : cheapest(i, book);
                offerCost[i] = best == NONE ? NONE : setPrice[best];
                offer[i] = best == NONE ? 0 : set[best];
            }
            cost = 0;
            for (int made = 0; made < count; made++) {
                int next = cheapestOffer();
                if (next == NONE || offerCost[next] > coins - cost) {
                    return made;
                }
                cost += offerCost[next];
                bag[next] |= offer[next];
                offerCost[next] = NONE;
            }
            return count;
        }

        private int cheapestOffer() {
            int best = NONE;
            for (int i = 0; i < count; i++) {
                if (offerCost[i] != NONE && (best == NONE || offerCost[i] < offerCost[best])) {
                    best = i;
                }
            }
            return best;
        }
    }

    /** How bags are picked, handed out, and labelled. */
    private static final class Bags {
        static final int MOST_TEXT = MOST_KINDS * 10;

        int count;
        final int[] order = new int[MOST_CHILDREN];
        final int[] far = new int[MOST_CHILDREN];
        int houses;
        final int[] first = new int[MOST_CHILDREN];
        final int[] minutes = new int[MOST_CHILDREN];
        final int[] free = new int[MOST_WINDOWS];
        int waited;
        int lastMinute;
        final int[] text = new int[MOST_TEXT];
        int written;

        void sort(Giving giving, Book book) {
            count = 0;
            for (int i = 0; i < giving.count; i++) {
                if (giving.bag[i] != 0) {
                    insert(i, farOf(giving.bag[i], book));
                }
            }
        }

        private static int farOf(int bag, Book book) {
            int most = 0;
            for (int kind = 0; kind < book.kinds; kind++) {
                if ((bag >> kind & 1) != 0) {
                    most = Math.max(most, book.shelf[kind]);
                }
            }
            return most;
        }

        private void insert(int child, int steps) {
            int place = count;
            for (; place > 0 && far[place - 1] < steps; place--) {
                far[place] = far[place - 1];
                order[place] = order[place - 1];
            }
            far[place] = steps;
            order[place] = child;
            count++;
        }

        int steps(int b) {
            int stride = Math.max(1, b);
            int sum = 0;
            for (int i = 0; i < count; i += stride) {
                sum += 2 * far[i];
            }
            return sum;
        }

        void formLine(Giving giving, int day) {
            houses = 0;
            for (int i = 0; i < giving.count; i++) {
                if (giving.day[i] == day && giving.bag[i] != 0) {
                    addToHouse(giving, i);
                }
            }
        }

        private void addToHouse(Giving giving, int child) {
            int house = giving.house[child];
            for (int i = 0; i < houses && house != 0; i++) {
                if (giving.house[first[i]] == house) {
                    minutes[i]++;
                    return;
                }
            }
            first[houses] = child;
            minutes[houses] = 3;
            houses++;
        }

        /** Houses that take as long as one another may come in any order: no sum tells them apart. */
        void serveLine(int windows) {
            Arrays.fill(free, 0);
            waited = 0;
            lastMinute = 0;
            for (int wanted = 3; wanted <= MOST_CHILDREN + 2; wanted++) {
                for (int i = 0; i < houses; i++) {
                    if (minutes[i] == wanted) {
                        serve(windows, wanted);
                    }
                }
            }
        }

        private void serve(int windows, int needed) {
            int best = 0;
            for (int i = 1; i < windows && i < MOST_WINDOWS; i++) {
                if (free[i] < free[best]) {
                    best = i;
                }
            }
            waited += free[best];
            free[best] += needed;
            lastMinute = Math.max(lastMinute, free[best]);
        }

        int write(int bag, Book book) {
            written = 0;
            for (int kind = 0; kind < book.kinds; kind++) {
                if ((bag >> kind & 1) != 0) {
                    if (written > 0) {
                        put(',');
                        put(' ');
                    }
                    for (int k = 0; k < LETTERS && letterOf(book.kindName[kind], k) != NONE; k++) {
                        put(letterOf(book.kindName[kind], k));
                    }
                }
            }
            put('.');
            return written;
        }

        private void put(int letter) {
            if (written < MOST_TEXT) {
                text[written] = letter;
                written++;
            }
        }
    }
}
