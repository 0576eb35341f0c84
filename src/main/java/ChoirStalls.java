/**
 * Choir stalls of misericords: a list tells beasts, carvers, stalls, bishops and orders,
 * days go by, and it is told what is and what would be.
 */
public final class ChoirStalls {
    private static final int NONE = -1;

    private static final int TAPE_ROOM = 2000;
    private static final int NUMBERS_FED = 5;
    private static final int BYTES_OF_NUMBER = 4;

    private static final int MOST_TOKENS = 400;
    private static final int MOST_WORD = 10;
    private static final int MOST_DIGITS = 6;
    private static final int MOST_DEPTH = 8;
    private static final int MOST_BEASTS = 8;
    private static final int MOST_CARVERS = 5;
    private static final int MOST_STALLS = 10;
    private static final int MOST_BISHOPS = 6;
    private static final int MOST_ORDERS = 20;

    private static final int ERROR_GRAMMAR = 1;
    private static final int ERROR_TOLD_TWICE = 2;
    private static final int ERROR_NOT_TOLD = 3;
    private static final int ERROR_TOO_MANY = 4;
    private static final int ERROR_RANGE = 5;

    private static final int FIRST_DAMP = 3;
    private static final int MOST_DAMP = 9;
    private static final int WET_DAMP = 4;
    private static final int MOST_RUST = 20;
    private static final int SQUEAKING_RUST = 8;
    private static final int SQUEAKING_COST = 3;
    private static final int MOST_WORMS = 99;
    private static final int WANDERING_WORMS = 10;
    private static final int EATING_WORMS = 30;
    private static final int GIVING_PLEASURE = 10;

    private static final int MOST_DAYS = 120;
    private static final int MOST_ADVISED_DAYS = 90;
    private static final int MOST_UNTIL = 200;

    private static final int COUNTS = 14;
    private static final int BEAST_FACTS = 3;
    private static final int CARVER_FACTS = 5;
    private static final int STALL_FACTS = 7;
    private static final int ORDER_FACTS = 6;
    private static final int UNTIL_FACTS = 3;
    private static final int FORESEEN_FACTS = 5;

    private static final long DIGEST_START = 823;
    private static final long DIGEST_FACTOR = 31;

    private static final Sign[] SIGNS = Sign.values();

    private final Row tape = new Row(TAPE_ROOM);
    private Told told = new Told();
    // Read into ahead of being told, so that a list with an error leaves all as it is.
    private Told draft = new Told();
    private final ListReader reader = new ListReader(new Tokens(tape), draft);
    private final Choir now = new Choir(told);
    // Lives through days that are only thought of; made once and used again.
    private final Choir later = new Choir(told);
    private int tapeLength = 0;
    private int errorPlace = NONE;

    public ChoirStalls() {
        now.damp = FIRST_DAMP;
    }

    // ---- the language

    public int feed(int a, int b, int c, int d, int e) throws IllegalStateException {
        if (tapeLength + NUMBERS_FED * BYTES_OF_NUMBER > TAPE_ROOM) {
            throw new IllegalStateException("the tape would be too long");
        }
        append(a);
        append(b);
        append(c);
        append(d);
        append(e);
        return tapeLength;
    }

    public int trim(int n) throws IllegalArgumentException {
        if (n < 0 || n > tapeLength) {
            throw new IllegalArgumentException("the tape has no so many bytes");
        }
        tapeLength = n;
        return n;
    }

    public int teach() {
        int error = reader.read(tapeLength, draft);
        errorPlace = reader.errorPlace;
        tapeLength = 0;
        if (error == 0) {
            Told before = told;
            told = draft;
            draft = before;
            now.begin(told);
        }
        return error;
    }

    public int errorAt() {
        return errorPlace;
    }

    public int count(int what) throws IndexOutOfBoundsException {
        checkIndex(what, COUNTS);
        return countOf(what);
    }

    // ---- what there is

    public int beast(int beast, int what) throws IndexOutOfBoundsException {
        checkIndex(beast, told.beasts.count);
        checkIndex(what, BEAST_FACTS);
        return factOfBeast(beast, what);
    }

    public int carver(int carver, int what) throws IndexOutOfBoundsException {
        checkIndex(carver, told.carvers.count);
        checkIndex(what, CARVER_FACTS);
        return factOfCarver(carver, what);
    }

    public int stall(int stall, int what) throws IndexOutOfBoundsException {
        checkIndex(stall, told.stalls.count);
        checkIndex(what, STALL_FACTS);
        return factOfStall(stall, what);
    }

    public int order(int order, int what) throws IndexOutOfBoundsException {
        checkIndex(order, told.orders);
        checkIndex(what, ORDER_FACTS);
        return factOfOrder(order, what);
    }

    public int bishop() {
        return now.bishopOfDay();
    }

    public int pleasure(int bishop) throws IndexOutOfBoundsException {
        checkIndex(bishop, told.bishops.count);
        return now.pleasureOf(bishop);
    }

    public int worst(int bishop) throws IndexOutOfBoundsException {
        checkIndex(bishop, told.bishops.count);
        return now.worstFor(bishop);
    }

    // ---- by hand

    public int setDamp(int damp) throws IllegalArgumentException {
        if (damp < 0 || damp > MOST_DAMP) {
            throw new IllegalArgumentException("there is no such damp");
        }
        int before = now.damp;
        now.damp = damp;
        return before;
    }

    public int oil(int stall) throws IndexOutOfBoundsException {
        checkIndex(stall, told.stalls.count);
        int before = now.rust.at(stall);
        now.rust.put(stall, 0);
        return before;
    }

    public int smoke(int stall) throws IndexOutOfBoundsException, IllegalStateException {
        checkIndex(stall, told.stalls.count);
        if (now.coins < 1) {
            throw new IllegalStateException("there is no coin");
        }
        int left = now.worms.at(stall) / 2;
        now.coins--;
        now.worms.put(stall, left);
        return left;
    }

    public int strip(int stall) throws IndexOutOfBoundsException, IllegalStateException {
        checkIndex(stall, told.stalls.count);
        int beast = now.bears.at(stall);
        if (beast == NONE) {
            throw new IllegalStateException("the stall bears no beast");
        }
        now.bears.put(stall, NONE);
        now.quality.put(stall, 0);
        return beast;
    }

    // ---- days

    public int pass(int days) throws IllegalArgumentException {
        checkDays(days, MOST_DAYS);
        int before = now.carved;
        now.live(days);
        return now.carved - before;
    }

    // ---- what would be

    public int until(int stall, int what) throws IndexOutOfBoundsException {
        checkIndex(stall, told.stalls.count);
        checkIndex(what, UNTIL_FACTS);
        later.become(now);
        for (int days = 0; days <= MOST_UNTIL; days++) {
            if (isSoLater(stall, what)) {
                return days;
            }
            later.live(1);
        }
        return NONE;
    }

    public int foresee(int days, int what) throws IllegalArgumentException, IndexOutOfBoundsException {
        checkDays(days, MOST_DAYS);
        checkIndex(what, FORESEEN_FACTS);
        later.become(now);
        later.live(days);
        switch (what) {
            case 0:
                return later.coins - now.coins;
            case 1:
                return later.carved - now.carved;
            case 2:
                return later.squeakingStalls();
            case 3:
                return later.allWorms();
            default:
                int bishop = later.bishopOfDay();
                return bishop == NONE ? 0 : later.pleasureOf(bishop);
        }
    }

    public int advise(int days) throws IllegalArgumentException {
        checkDays(days, MOST_ADVISED_DAYS);
        int best = NONE;
        int mostCoins = 0;
        for (int damp = 0; damp <= MOST_DAMP; damp++) {
            later.become(now);
            later.damp = damp;
            later.live(days);
            if (best == NONE || later.coins >= mostCoins) {
                best = damp;
                mostCoins = later.coins;
            }
        }
        return best;
    }

    public int spare(int days) throws IllegalArgumentException {
        checkDays(days, MOST_ADVISED_DAYS);
        int best = NONE;
        int mostCoins = 0;
        for (int carver = 0; carver < told.carvers.count; carver++) {
            later.become(now);
            later.absent = carver;
            later.live(days);
            if (best == NONE || later.coins > mostCoins) {
                best = carver;
                mostCoins = later.coins;
            }
        }
        return best;
    }

    public double mean() {
        int bearing = now.bearingStalls();
        return bearing == 0 ? 0.0 : (double) now.allQuality() / (double) bearing;
    }

    public long digest() {
        long sum = DIGEST_START;
        for (int what = 0; what < COUNTS; what++) {
            sum = sum * DIGEST_FACTOR + countOf(what);
        }
        for (int i = 0; i < told.beasts.count * BEAST_FACTS; i++) {
            sum = sum * DIGEST_FACTOR + factOfBeast(i / BEAST_FACTS, i % BEAST_FACTS);
        }
        for (int i = 0; i < told.carvers.count * CARVER_FACTS; i++) {
            sum = sum * DIGEST_FACTOR + factOfCarver(i / CARVER_FACTS, i % CARVER_FACTS);
        }
        for (int i = 0; i < told.stalls.count * STALL_FACTS; i++) {
            sum = sum * DIGEST_FACTOR + factOfStall(i / STALL_FACTS, i % STALL_FACTS);
        }
        for (int bishop = 0; bishop < told.bishops.count; bishop++) {
            sum = sum * DIGEST_FACTOR + now.pleasureOf(bishop);
        }
        for (int i = 0; i < told.orders * ORDER_FACTS; i++) {
            sum = sum * DIGEST_FACTOR + factOfOrder(i / ORDER_FACTS, i % ORDER_FACTS);
        }
        return sum;
    }

    // ---- behind the face

    private static void checkIndex(int index, int end) {
        if (index < 0 || index >= end) {
            throw new IndexOutOfBoundsException("there is no such number");
        }
    }

    private static void checkDays(int days, int most) {
        if (days < 1 || days > most) {
            throw new IllegalArgumentException("not so many days");
        }
    }

    private void append(int number) {
        for (int shift = 24; shift >= 0; shift -= 8) {
            tape.put(tapeLength, number >> shift & 255);
            tapeLength++;
        }
    }

    private int countOf(int what) {
        switch (what) {
            case 0:
                return now.day;
            case 1:
                return now.damp;
            case 2:
                return told.beasts.count;
            case 3:
                return told.carvers.count;
            case 4:
                return told.stalls.count;
            case 5:
                return told.bishops.count;
            case 6:
                return told.orders;
            case 7:
                return now.bearingStalls();
            case 8:
                return now.squeakingStalls();
            case 9:
                return now.allWorms();
            case 10:
                return now.coins;
            case 11:
                return now.carved;
            case 12:
                return now.openOrders();
            default:
                return tapeLength;
        }
    }

    private int factOfBeast(int beast, int what) {
        switch (what) {
            case 0:
                return told.grim.at(beast);
            case 1:
                return told.fine.at(beast);
            default:
                return now.stallsThatBear(beast);
        }
    }

    private int factOfCarver(int carver, int what) {
        switch (what) {
            case 0:
                return told.skill.at(carver);
            case 1:
                return told.pace.at(carver);
            case 2:
                return told.likes.at(carver);
            case 3:
                return now.orderToday(carver);
            default:
                return now.carvedBy.at(carver);
        }
    }

    private int factOfStall(int stall, int what) {
        switch (what) {
            case 0:
                return told.oak.at(stall);
            case 1:
                return now.bears.at(stall);
            case 2:
                return now.quality.at(stall);
            case 3:
                return now.worms.at(stall);
            case 4:
                return now.rust.at(stall);
            case 5:
                return now.squeaks(stall) ? 1 : 0;
            default:
                int bishop = now.bishopOfDay();
                return bishop == NONE ? 0 : now.delightOf(bishop, stall);
        }
    }

    private int factOfOrder(int order, int what) {
        switch (what) {
            case 0:
                return told.isCarve(order) ? 0 : 1;
            case 1:
                return told.orderStall.at(order);
            case 2:
                return told.orderBeast.at(order);
            case 3:
                return told.orderCarver.at(order);
            case 4:
                return now.work.at(order);
            default:
                return now.isDue(order) ? 1 : 0;
        }
    }

    private boolean isSoLater(int stall, int what) {
        switch (what) {
            case 0:
                return later.bears.at(stall) != NONE;
            case 1:
                return later.squeaks(stall);
            default:
                return later.worms.at(stall) >= EATING_WORMS;
        }
    }

    /** What a token is; the steps of a test are named by the token that asks for them. */
    private enum Sign {
        END, BAD, NAME, NUMBER, NEGATE,
        OPEN, CLOSE, OPEN_TEST, CLOSE_TEST, SEMICOLON, COMMA,
        PLUS, MINUS, TIMES, DIVIDE, LESS, GREATER, EQUAL, AT_MOST, AT_LEAST,
        BEAST("beast"), GRIM("grim"), FINE("fine"), CARVER("carver"), SKILL("skill"),
        PACE("pace"), LIKES("likes"), STALL("stall"), OAK("oak"), BISHOP("bishop"),
        FROM("from"), CARVE("carve"), ON("on"), BY("by"), OIL("oil"), WHEN("when"),
        DAY("day"), DAMP("damp"), QUALITY("quality"), WORMS("worms"), RUST("rust"),
        COINS("coins"), BEARS("bears"), SQUEAKS("squeaks"), NOT("not"), AND("and"),
        OR("or"), MIN("min"), MAX("max");

        /** The keyword as one number, 0 for what is no keyword. */
        private final long code;

        Sign() {
            code = 0;
        }

        Sign(String keyword) {
            long sum = 0;
            for (int i = 0; i < keyword.length(); i++) {
                sum = longer(sum, keyword.charAt(i));
            }
            code = sum;
        }

        // Letters and digits count 1 to 36, so ten of them fit into a long and no two words have one code.
        static long longer(long code, int letter) {
            return code * 37 + (letter <= '9' ? letter - '0' + 1 : letter - 'a' + 11);
        }

        static Sign ofWord(long code) {
            for (int i = 0; i < SIGNS.length; i++) {
                if (SIGNS[i].code == code) {
                    return SIGNS[i];
                }
            }
            return NAME;
        }

        boolean compares() {
            return this == LESS || this == GREATER || this == EQUAL || this == AT_MOST || this == AT_LEAST;
        }
    }

    /** Numbers of a fixed room; a place outside reads 0 and keeps nothing, so that no index can go wrong. */
    private static final class Row {
        private final int[] cells;

        Row(int room) {
            cells = new int[Math.max(room, 0)];
        }

        int at(int place) {
            return place >= 0 && place < cells.length ? cells[place] : 0;
        }

        void put(int place, int number) {
            if (place >= 0 && place < cells.length) {
                cells[place] = number;
            }
        }

        void add(int place, int more) {
            put(place, at(place) + more);
        }

        void fill(int number) {
            for (int i = 0; i < cells.length; i++) {
                cells[i] = number;
            }
        }

        void become(Row other) {
            System.arraycopy(other.cells, 0, cells, 0, Math.min(cells.length, other.cells.length));
        }
    }

    /** The names of one sort, in the order in which they are told. */
    private static final class Names {
        private final long[] codes;
        private int count = 0;

        Names(int room) {
            codes = new long[Math.max(room, 0)];
        }

        int find(long code) {
            for (int i = 0; i < count && i < codes.length; i++) {
                if (codes[i] == code) {
                    return i;
                }
            }
            return NONE;
        }

        boolean add(long code) {
            if (count < 0 || count >= codes.length) {
                return false;
            }
            codes[count] = code;
            count++;
            return true;
        }
    }

    /** All tests of a list, each a run of steps with the operands ahead of their operator. */
    private static final class Steps {
        private final Sign[] kinds = new Sign[MOST_TOKENS];
        private final Row firsts = new Row(MOST_TOKENS);
        private final Row seconds = new Row(MOST_TOKENS);
        private int count = 0;

        void add(Sign kind, int first, int second) {
            if (count >= 0 && count < kinds.length) {
                kinds[count] = kind;
                firsts.put(count, first);
                seconds.put(count, second);
                count++;
            }
        }

        Sign kindAt(int step) {
            Sign kind = step >= 0 && step < kinds.length ? kinds[step] : null;
            return kind == null ? Sign.BAD : kind;
        }
    }

    /** What a list tells. */
    private static final class Told {
        private final Names beasts = new Names(MOST_BEASTS);
        private final Names carvers = new Names(MOST_CARVERS);
        private final Names stalls = new Names(MOST_STALLS);
        private final Names bishops = new Names(MOST_BISHOPS);
        private int orders = 0;
        private final Row grim = new Row(MOST_BEASTS);
        private final Row fine = new Row(MOST_BEASTS);
        private final Row skill = new Row(MOST_CARVERS);
        private final Row pace = new Row(MOST_CARVERS);
        private final Row likes = new Row(MOST_CARVERS);
        private final Row oak = new Row(MOST_STALLS);
        private final Row bishopGrim = new Row(MOST_BISHOPS);
        private final Row bishopFrom = new Row(MOST_BISHOPS);
        private final Row orderStall = new Row(MOST_ORDERS);
        // An order of oil has neither beast nor carver, which is how the two kinds are told apart.
        private final Row orderBeast = new Row(MOST_ORDERS);
        private final Row orderCarver = new Row(MOST_ORDERS);
        private final Row testFrom = new Row(MOST_ORDERS);
        private final Row testTo = new Row(MOST_ORDERS);
        private final Steps steps = new Steps();

        void clear() {
            beasts.count = 0;
            carvers.count = 0;
            stalls.count = 0;
            bishops.count = 0;
            orders = 0;
            steps.count = 0;
        }

        boolean isCarve(int order) {
            return orderBeast.at(order) != NONE;
        }
    }

    /** The tokens of the tape, up to its end or the first that can be none, and a finger on one of them. */
    private static final class Tokens {
        private final Row tape;
        private final Sign[] signs = new Sign[MOST_TOKENS + 1];
        private final long[] values = new long[MOST_TOKENS + 1];
        private final Row places = new Row(MOST_TOKENS + 1);
        private int finger = 0;
        private int length = 0;
        private int place = 0;
        private long value = 0;

        Tokens(Row tape) {
            this.tape = tape;
        }

        Sign sign() {
            Sign sign = finger >= 0 && finger < signs.length ? signs[finger] : null;
            return sign == null ? Sign.BAD : sign;
        }

        /** The number itself, or the code of a word. */
        long value() {
            return finger >= 0 && finger < values.length ? values[finger] : 0;
        }

        int placeOf(int token) {
            return places.at(token);
        }

        void step() {
            finger++;
        }

        void split(int bytes) {
            finger = 0;
            length = bytes;
            place = 0;
            for (int i = 0; i < signs.length && i < values.length; i++) {
                skipBlanks();
                places.put(i, place);
                value = 0;
                Sign sign = i < MOST_TOKENS || place >= length ? nextSign() : Sign.BAD;
                signs[i] = sign;
                values[i] = value;
                if (sign == Sign.END || sign == Sign.BAD) {
                    return;
                }
            }
        }

        private void skipBlanks() {
            while (place < length && (tape.at(place) == ' ' || tape.at(place) == '\n')) {
                place++;
            }
        }

        private Sign nextSign() {
            if (place >= length) {
                return Sign.END;
            }
            int first = tape.at(place);
            if (isLetter(first)) {
                return nextWord();
            }
            return isDigit(first) ? nextNumber() : nextSymbol(first);
        }

        private Sign nextWord() {
            int start = place;
            while (place < length && (isLetter(tape.at(place)) || isDigit(tape.at(place)))) {
                value = Sign.longer(value, tape.at(place));
                place++;
            }
            return place - start > MOST_WORD ? Sign.BAD : Sign.ofWord(value);
        }

        private Sign nextNumber() {
            int start = place;
            while (place < length && isDigit(tape.at(place))) {
                value = value * 10 + tape.at(place) - '0';
                place++;
            }
            return place - start > MOST_DIGITS ? Sign.BAD : Sign.NUMBER;
        }

        private Sign nextSymbol(int symbol) {
            place++;
            switch (symbol) {
                case '(':
                    return Sign.OPEN;
                case ')':
                    return Sign.CLOSE;
                case '[':
                    return Sign.OPEN_TEST;
                case ']':
                    return Sign.CLOSE_TEST;
                case ';':
                    return Sign.SEMICOLON;
                case ',':
                    return Sign.COMMA;
                case '+':
                    return Sign.PLUS;
                case '-':
                    return Sign.MINUS;
                case '*':
                    return Sign.TIMES;
                case '/':
                    return Sign.DIVIDE;
                case '=':
                    return Sign.EQUAL;
                case '<':
                    return skipEqual() ? Sign.AT_MOST : Sign.LESS;
                case '>':
                    return skipEqual() ? Sign.AT_LEAST : Sign.GREATER;
                default:
                    return Sign.BAD;
            }
        }

        private boolean skipEqual() {
            boolean equal = place < length && tape.at(place) == '=';
            if (equal) {
                place++;
            }
            return equal;
        }

        private static boolean isLetter(int letter) {
            return letter >= 'a' && letter <= 'z';
        }

        private static boolean isDigit(int letter) {
            return letter >= '0' && letter <= '9';
        }
    }

    /**
     * Reads tokens as a list. Each method of the grammar answers whether the tokens fit, and else
     * leaves the finger on the one that does not; errors 2 to 5 are only noted on the way, since
     * an error 1 behind them goes ahead of them.
     */
    private static final class ListReader {
        private final Tokens tokens;
        private Told draft;
        private int found = NONE;
        private int error = 0;
        private int errorToken = NONE;
        private int errorPlace = NONE;

        ListReader(Tokens tokens, Told draft) {
            this.tokens = tokens;
            this.draft = draft;
        }

        int read(int bytes, Told into) {
            tokens.split(bytes);
            draft = into;
            draft.clear();
            error = 0;
            boolean fits = true;
            for (int i = 0; i < MOST_TOKENS && fits && tokens.sign() != Sign.END; i++) {
                fits = line() && skip(Sign.SEMICOLON);
            }
            if (!fits) {
                error = ERROR_GRAMMAR;
                errorToken = tokens.finger;
            }
            errorPlace = error == 0 ? NONE : tokens.placeOf(errorToken);
            return error;
        }

        private void note(int fault) {
            if (error == 0) {
                error = fault;
                errorToken = tokens.finger;
            }
        }

        private boolean skip(Sign sign) {
            if (tokens.sign() != sign) {
                return false;
            }
            tokens.step();
            return true;
        }

        private boolean line() {
            switch (tokens.sign()) {
                case BEAST:
                    return newName(draft.beasts)
                            && number(Sign.GRIM, 0, 9, draft.grim, draft.beasts)
                            && number(Sign.FINE, 1, 9, draft.fine, draft.beasts);
                case CARVER:
                    return newName(draft.carvers)
                            && number(Sign.SKILL, 1, 9, draft.skill, draft.carvers)
                            && number(Sign.PACE, 1, 4, draft.pace, draft.carvers)
                            && liking();
                case STALL:
                    return newName(draft.stalls) && number(Sign.OAK, 1, 9, draft.oak, draft.stalls);
                case BISHOP:
                    return newName(draft.bishops)
                            && number(Sign.GRIM, 0, 9, draft.bishopGrim, draft.bishops)
                            && number(Sign.FROM, 0, 999, draft.bishopFrom, draft.bishops);
                case CARVE:
                    return carving() && condition();
                case OIL:
                    return oiling() && condition();
                default:
                    return false;
            }
        }

        private boolean newName(Names names) {
            tokens.step();
            if (tokens.sign() != Sign.NAME) {
                return false;
            }
            if (names.find(tokens.value()) != NONE) {
                note(ERROR_TOLD_TWICE);
            } else if (!names.add(tokens.value())) {
                note(ERROR_TOO_MANY);
            }
            tokens.step();
            return true;
        }

        private boolean number(Sign key, int least, int most, Row row, Names owners) {
            if (!skip(key) || tokens.sign() != Sign.NUMBER) {
                return false;
            }
            if (tokens.value() < least || tokens.value() > most) {
                note(ERROR_RANGE);
            }
            row.put(owners.count - 1, (int) tokens.value());
            tokens.step();
            return true;
        }

        private boolean knownName(Names names) {
            if (tokens.sign() != Sign.NAME) {
                return false;
            }
            found = names.find(tokens.value());
            if (found == NONE) {
                note(ERROR_NOT_TOLD);
            }
            tokens.step();
            return true;
        }

        private boolean liking() {
            found = NONE;
            boolean fits = !skip(Sign.LIKES) || knownName(draft.beasts);
            draft.likes.put(draft.carvers.count - 1, found);
            return fits;
        }

        private void newOrder() {
            if (draft.orders >= MOST_ORDERS) {
                note(ERROR_TOO_MANY);
            } else {
                draft.orders++;
            }
            tokens.step();
        }

        private boolean carving() {
            newOrder();
            int order = draft.orders - 1;
            boolean fits = knownName(draft.beasts);
            draft.orderBeast.put(order, found);
            fits = fits && skip(Sign.ON) && knownName(draft.stalls);
            draft.orderStall.put(order, found);
            fits = fits && skip(Sign.BY) && knownName(draft.carvers);
            draft.orderCarver.put(order, found);
            return fits;
        }

        private boolean oiling() {
            newOrder();
            int order = draft.orders - 1;
            boolean fits = knownName(draft.stalls);
            draft.orderStall.put(order, found);
            draft.orderBeast.put(order, NONE);
            draft.orderCarver.put(order, NONE);
            return fits;
        }

        private boolean condition() {
            int order = draft.orders - 1;
            draft.testFrom.put(order, draft.steps.count);
            boolean fits = !skip(Sign.WHEN) || test(0);
            draft.testTo.put(order, draft.steps.count);
            return fits;
        }

        private boolean test(int depth) {
            boolean fits = both(depth);
            for (int i = 0; i < MOST_TOKENS && fits && skip(Sign.OR); i++) {
                fits = both(depth);
                draft.steps.add(Sign.OR, 0, 0);
            }
            return fits;
        }

        private boolean both(int depth) {
            boolean fits = single(depth);
            for (int i = 0; i < MOST_TOKENS && fits && skip(Sign.AND); i++) {
                fits = single(depth);
                draft.steps.add(Sign.AND, 0, 0);
            }
            return fits;
        }

        private boolean single(int depth) {
            switch (tokens.sign()) {
                case NOT:
                    if (!goDeeper(depth) || !single(depth + 1)) {
                        return false;
                    }
                    draft.steps.add(Sign.NOT, 0, 0);
                    return true;
                case OPEN_TEST:
                    return goDeeper(depth) && test(depth + 1) && skip(Sign.CLOSE_TEST);
                case BEARS:
                    return bearing();
                case SQUEAKS:
                    return ofStall(Sign.SQUEAKS);
                default:
                    break;
            }
            if (!sum(depth) || !tokens.sign().compares()) {
                return false;
            }
            Sign comparison = tokens.sign();
            tokens.step();
            boolean fits = sum(depth);
            draft.steps.add(comparison, 0, 0);
            return fits;
        }

        /** Steps over what opens the next depth, if there may be one. */
        private boolean goDeeper(int depth) {
            if (depth >= MOST_DEPTH) {
                return false;
            }
            tokens.step();
            return true;
        }

        private boolean bearing() {
            tokens.step();
            if (!knownName(draft.stalls)) {
                return false;
            }
            int stall = found;
            boolean fits = knownName(draft.beasts);
            draft.steps.add(Sign.BEARS, stall, found);
            return fits;
        }

        private boolean ofStall(Sign fact) {
            tokens.step();
            boolean fits = knownName(draft.stalls);
            draft.steps.add(fact, found, 0);
            return fits;
        }

        private boolean sum(int depth) {
            boolean fits = product(depth);
            for (int i = 0; i < MOST_TOKENS && fits; i++) {
                Sign sign = tokens.sign();
                if (sign != Sign.PLUS && sign != Sign.MINUS) {
                    break;
                }
                tokens.step();
                fits = product(depth);
                draft.steps.add(sign, 0, 0);
            }
            return fits;
        }

        private boolean product(int depth) {
            boolean fits = value(depth);
            for (int i = 0; i < MOST_TOKENS && fits; i++) {
                Sign sign = tokens.sign();
                if (sign != Sign.TIMES && sign != Sign.DIVIDE) {
                    break;
                }
                tokens.step();
                fits = value(depth);
                draft.steps.add(sign, 0, 0);
            }
            return fits;
        }

        private boolean value(int depth) {
            Sign sign = tokens.sign();
            switch (sign) {
                case NUMBER:
                case DAY:
                case DAMP:
                case COINS:
                    draft.steps.add(sign, (int) tokens.value(), 0);
                    tokens.step();
                    return true;
                case QUALITY:
                case WORMS:
                case RUST:
                    return ofStall(sign);
                case MINUS:
                    if (!goDeeper(depth) || !value(depth + 1)) {
                        return false;
                    }
                    draft.steps.add(Sign.NEGATE, 0, 0);
                    return true;
                case OPEN:
                    return goDeeper(depth) && sum(depth + 1) && skip(Sign.CLOSE);
                case MIN:
                case MAX:
                    tokens.step();
                    return choice(sign, depth);
                default:
                    return false;
            }
        }

        private boolean choice(Sign sign, int depth) {
            if (tokens.sign() != Sign.OPEN || !goDeeper(depth)) {
                return false;
            }
            boolean fits = sum(depth + 1) && skip(Sign.COMMA) && sum(depth + 1) && skip(Sign.CLOSE);
            draft.steps.add(sign, 0, 0);
            return fits;
        }
    }

    /** Reckons tests on a stack that is made once. */
    private static final class Reckoner {
        private final int[] stack = new int[MOST_TOKENS];
        private int top = 0;

        boolean holds(Choir choir, int order) {
            int from = choir.told.testFrom.at(order);
            int to = choir.told.testTo.at(order);
            Steps steps = choir.told.steps;
            top = 0;
            for (int i = from; i < to; i++) {
                perform(choir, steps.kindAt(i), steps.firsts.at(i), steps.seconds.at(i));
            }
            return from >= to || pop() != 0;
        }

        private void push(int number) {
            if (top >= 0 && top < stack.length) {
                stack[top] = number;
                top++;
            }
        }

        private int pop() {
            if (top < 1 || top > stack.length) {
                return 0;
            }
            top--;
            return stack[top];
        }

        private void perform(Choir choir, Sign kind, int first, int second) {
            switch (kind) {
                case NUMBER:
                    push(first);
                    break;
                case DAY:
                    push(choir.day);
                    break;
                case DAMP:
                    push(choir.damp);
                    break;
                case COINS:
                    push(choir.coins);
                    break;
                case QUALITY:
                    push(choir.quality.at(first));
                    break;
                case WORMS:
                    push(choir.worms.at(first));
                    break;
                case RUST:
                    push(choir.rust.at(first));
                    break;
                case BEARS:
                    push(choir.bears.at(first) == second ? 1 : 0);
                    break;
                case SQUEAKS:
                    push(choir.squeaks(first) ? 1 : 0);
                    break;
                case NEGATE:
                    push(-pop());
                    break;
                case NOT:
                    push(1 - pop());
                    break;
                default:
                    int right = pop();
                    push(joined(kind, pop(), right));
                    break;
            }
        }

        private static int joined(Sign kind, int left, int right) {
            switch (kind) {
                case PLUS:
                    return left + right;
                case MINUS:
                    return left - right;
                case TIMES:
                    return left * right;
                case DIVIDE:
                    return right == 0 ? 0 : left / right;
                case MIN:
                    return Math.min(left, right);
                case MAX:
                    return Math.max(left, right);
                case LESS:
                    return left < right ? 1 : 0;
                case GREATER:
                    return left > right ? 1 : 0;
                case EQUAL:
                    return left == right ? 1 : 0;
                case AT_MOST:
                    return left <= right ? 1 : 0;
                case AT_LEAST:
                    return left >= right ? 1 : 0;
                case AND:
                    return left & right;
                default:
                    return left | right;
            }
        }
    }

    /** The choir on one day, and how it goes from day to day. */
    private static final class Choir {
        private Told told;
        private int day = 0;
        private int damp = 0;
        private int coins = 0;
        private int carved = 0;
        /** A carver who stays away in a future that is only thought of. */
        private int absent = NONE;
        private final Row bears = new Row(MOST_STALLS);
        private final Row quality = new Row(MOST_STALLS);
        private final Row worms = new Row(MOST_STALLS);
        private final Row wormsBefore = new Row(MOST_STALLS);
        private final Row rust = new Row(MOST_STALLS);
        private final Row work = new Row(MOST_ORDERS);
        private final Row carvedBy = new Row(MOST_CARVERS);
        private final Reckoner reckoner = new Reckoner();

        Choir(Told told) {
            this.told = told;
        }

        void begin(Told list) {
            told = list;
            coins = 0;
            carved = 0;
            bears.fill(NONE);
            quality.fill(0);
            worms.fill(0);
            rust.fill(0);
            work.fill(0);
            carvedBy.fill(0);
        }

        void become(Choir other) {
            told = other.told;
            day = other.day;
            damp = other.damp;
            coins = other.coins;
            carved = other.carved;
            absent = other.absent;
            bears.become(other.bears);
            quality.become(other.quality);
            worms.become(other.worms);
            rust.become(other.rust);
            work.become(other.work);
            carvedBy.become(other.carvedBy);
        }

        boolean squeaks(int stall) {
            return rust.at(stall) >= SQUEAKING_RUST;
        }

        boolean isOpen(int order) {
            return told.isCarve(order) && bears.at(told.orderStall.at(order)) != told.orderBeast.at(order);
        }

        boolean isDue(int order) {
            return (isOpen(order) || !told.isCarve(order)) && reckoner.holds(this, order);
        }

        int orderToday(int carver) {
            int pace = told.pace.at(carver);
            if (pace < 1 || day % pace != 0) {
                return NONE;
            }
            for (int order = 0; order < told.orders; order++) {
                if (told.orderCarver.at(order) == carver && isOpen(order) && reckoner.holds(this, order)) {
                    return order;
                }
            }
            return NONE;
        }

        int bishopOfDay() {
            int latest = NONE;
            for (int bishop = 0; bishop < told.bishops.count; bishop++) {
                int from = told.bishopFrom.at(bishop);
                if (from <= day && (latest == NONE || from >= told.bishopFrom.at(latest))) {
                    latest = bishop;
                }
            }
            return latest;
        }

        /** By how much the stall pleases the bishop, without its squeaking. */
        int delightOf(int bishop, int stall) {
            int beast = bears.at(stall);
            if (beast == NONE) {
                return 0;
            }
            return quality.at(stall) - 2 * Math.abs(told.grim.at(beast) - told.bishopGrim.at(bishop));
        }

        private int squeakingCost(int stall) {
            return squeaks(stall) ? SQUEAKING_COST : 0;
        }

        int pleasureOf(int bishop) {
            int sum = 0;
            for (int stall = 0; stall < told.stalls.count; stall++) {
                sum += delightOf(bishop, stall) - squeakingCost(stall);
            }
            return sum;
        }

        int worstFor(int bishop) {
            int worst = NONE;
            int least = 0;
            for (int stall = 0; stall < told.stalls.count; stall++) {
                int pleasing = delightOf(bishop, stall) - squeakingCost(stall);
                if (bears.at(stall) != NONE && (worst == NONE || pleasing < least)) {
                    worst = stall;
                    least = pleasing;
                }
            }
            return worst;
        }

        int bearingStalls() {
            return told.stalls.count - stallsThatBear(NONE);
        }

        int stallsThatBear(int beast) {
            int sum = 0;
            for (int stall = 0; stall < told.stalls.count; stall++) {
                sum += bears.at(stall) == beast ? 1 : 0;
            }
            return sum;
        }

        int squeakingStalls() {
            int sum = 0;
            for (int stall = 0; stall < told.stalls.count; stall++) {
                sum += squeaks(stall) ? 1 : 0;
            }
            return sum;
        }

        int allWorms() {
            int sum = 0;
            for (int stall = 0; stall < told.stalls.count; stall++) {
                sum += worms.at(stall);
            }
            return sum;
        }

        int allQuality() {
            int sum = 0;
            for (int stall = 0; stall < told.stalls.count; stall++) {
                sum += bears.at(stall) == NONE ? 0 : quality.at(stall);
            }
            return sum;
        }

        int openOrders() {
            int sum = 0;
            for (int order = 0; order < told.orders; order++) {
                sum += isOpen(order) ? 1 : 0;
            }
            return sum;
        }

        void live(int days) {
            for (int i = 0; i < days; i++) {
                letCarversWork();
                oilHinges();
                rustHinges();
                breedWorms();
                receiveCoins();
                day++;
            }
        }

        private void letCarversWork() {
            for (int carver = 0; carver < told.carvers.count; carver++) {
                int order = carver == absent ? NONE : orderToday(carver);
                if (order != NONE) {
                    workOn(order, carver);
                }
            }
        }

        private void workOn(int order, int carver) {
            int beast = told.orderBeast.at(order);
            int oak = told.oak.at(told.orderStall.at(order));
            int skill = told.skill.at(carver);
            boolean liked = told.likes.at(carver) == beast;
            work.add(order, liked ? 2 * skill : skill);
            if (work.at(order) >= oak * told.fine.at(beast) * 2) {
                finish(order, carver, Math.max(1, 3 * skill - oak + (liked ? 5 : 0)));
            }
        }

        private void finish(int order, int carver, int newQuality) {
            int stall = told.orderStall.at(order);
            work.put(order, 0);
            bears.put(stall, told.orderBeast.at(order));
            worms.put(stall, 0);
            quality.put(stall, newQuality);
            carvedBy.add(carver, 1);
            carved++;
        }

        private void oilHinges() {
            for (int order = 0; order < told.orders; order++) {
                if (!told.isCarve(order) && reckoner.holds(this, order)) {
                    rust.put(told.orderStall.at(order), 0);
                }
            }
        }

        private void rustHinges() {
            if (damp < WET_DAMP && day % 3 != 0) {
                return;
            }
            for (int stall = 0; stall < told.stalls.count; stall++) {
                rust.put(stall, Math.min(MOST_RUST, rust.at(stall) + 1));
            }
        }

        private void breedWorms() {
            wormsBefore.become(worms);
            for (int stall = 0; stall < told.stalls.count; stall++) {
                int more = damp / 2 - told.oak.at(stall) / 4 + (hasWormyNeighbour(stall) ? 1 : 0);
                int after = Math.max(0, Math.min(MOST_WORMS, wormsBefore.at(stall) + more));
                worms.put(stall, after);
                if (after >= EATING_WORMS && bears.at(stall) != NONE) {
                    quality.put(stall, Math.max(0, quality.at(stall) - 1));
                }
            }
        }

        private boolean hasWormyNeighbour(int stall) {
            boolean below = stall > 0 && wormsBefore.at(stall - 1) >= WANDERING_WORMS;
            boolean above = stall + 1 < told.stalls.count && wormsBefore.at(stall + 1) >= WANDERING_WORMS;
            return below || above;
        }

        private void receiveCoins() {
            int bishop = bishopOfDay();
            int pleasure = bishop == NONE ? 0 : pleasureOf(bishop);
            if (pleasure >= GIVING_PLEASURE) {
                coins += pleasure / 10;
            }
        }
    }
}
