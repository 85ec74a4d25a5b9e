import java.util.NoSuchElementException;

/**
 * A maker of time lines: reads what tellers say of happenings, holds it together, and tells what
 * follows from it. The words of the document (TELLER, SAYING, WAY and so on) are used as it has them.
 */
public final class CaseOrder {
    public static final int NONE = -1;

    private static final int TELLERS = 6;
    private static final int ALL_TELLERS = 63;
    private static final int MOST_HAPPENINGS = 20;
    private static final int MOST_SAYINGS = 12;
    private static final int MOST_TAPE = 440;
    private static final int MOST_TEXT = 400;
    private static final int LONGEST_NAME = 8;
    private static final int LONGEST_NUMBER = 4;
    private static final int LAST_DAY = 9999;
    private static final int FEED_BYTES = 20;

    private static final int NO_FAULT = 0;
    private static final int WRONG_TOKEN = 1;
    private static final int WRONG_NUMBER = 2;
    private static final int SAME_NAME = 3;
    private static final int TOO_MANY = 4;

    private static final Token[] TOKENS = Token.values();

    private final Tape tape;
    private final Names names;
    private final Text[] texts;
    private final Reader reader;
    private final Hearing hearing;
    /** The HAPPENING whose NAME is OUT: NAMES stay, so OUT needs no bytes of its own. */
    private int out;
    /** Where the next text is read to; it changes places with a TELLER's text when it is taken. */
    private Text draft;

    public CaseOrder() {
        tape = new Tape();
        names = new Names();
        texts = new Text[TELLERS];
        for (int t = 0; t < TELLERS; t++) {
            texts[t] = new Text();
        }
        draft = new Text();
        reader = new Reader(tape, names);
        hearing = new Hearing(texts, names);
        out = NONE;
    }

    public int feed(int a, int b, int c, int d, int e) {
        if (tape.length > MOST_TAPE - FEED_BYTES) {
            return NONE;
        }
        tape.putNumber(a);
        tape.putNumber(b);
        tape.putNumber(c);
        tape.putNumber(d);
        tape.putNumber(e);
        return tape.length;
    }

    public boolean end(int n) {
        if (n < 0 || n > tape.length) {
            return false;
        }
        tape.length = n;
        return true;
    }

    public int tell(int t) throws IndexOutOfBoundsException {
        if (!isTeller(t)) {
            throw new IndexOutOfBoundsException("there is no such teller");
        }
        boolean taken = reader.read(draft);
        tape.length = 0;
        if (!taken) {
            return -1 - reader.faultPlace;
        }
        Text old = texts[t];
        texts[t] = draft;
        draft = old;
        hearing.forget();
        return texts[t].size;
    }

    public int fault() {
        return reader.faultKind;
    }

    public boolean hear(int tellers) {
        if (tellers < 0 || tellers > ALL_TELLERS) {
            return false;
        }
        hearing.heard = tellers;
        hearing.forget();
        return true;
    }

    public int saying(int t, int k, int what) throws IndexOutOfBoundsException, NoSuchElementException {
        if (!isTeller(t)) {
            throw new IndexOutOfBoundsException("there is no such teller");
        }
        if (!texts[t].has(k)) {
            throw new NoSuchElementException("there is no such saying");
        }
        Saying said = texts[t].row[k];
        switch (what) {
            case 0:
                return said.word.kind;
            case 1:
                return said.own;
            case 2:
                return said.other;
            case 3:
                return said.first;
            case 4:
                return said.second;
            case 5:
                return said.place;
            default:
                throw new NoSuchElementException("a saying has no such part");
        }
    }

    public int happening() {
        int start = tape.firstSolid();
        int found = names.find(tape, start, tape.afterSolid(start) - start);
        tape.length = 0;
        return found;
    }

    public int name(int h) {
        if (!names.has(h)) {
            return NONE;
        }
        out = h;
        return names.lengths[h];
    }

    public int octet(int k) throws NoSuchElementException {
        if (k < 0 || k >= outLength()) {
            throw new NoSuchElementException("there is no such byte");
        }
        return names.letter(out, k);
    }

    public int agree() {
        return hearing.hasWay() ? 1 : 0;
    }

    public int bound(int h, int what) {
        if (!names.has(h) || !hearing.hasWay()) {
            return NONE;
        }
        switch (what) {
            case 0:
                return hearing.least(Net.ORIGIN, Net.firstOf(h));
            case 1:
                return hearing.greatest(Net.ORIGIN, Net.firstOf(h));
            case 2:
                return hearing.least(Net.ORIGIN, Net.lastOf(h));
            case 3:
                return hearing.greatest(Net.ORIGIN, Net.lastOf(h));
            default:
                return NONE;
        }
    }

    public int between(int g, int h, boolean greatest) throws NoSuchElementException {
        if (!names.has(g) || !names.has(h)) {
            throw new NoSuchElementException("there is no such happening");
        }
        if (!hearing.hasWay()) {
            throw new NoSuchElementException("those heard do not agree");
        }
        if (greatest) {
            return hearing.greatest(Net.lastOf(g), Net.firstOf(h));
        }
        return hearing.least(Net.lastOf(g), Net.firstOf(h));
    }

    public int order(int g, int h) {
        if (!names.has(g) || !names.has(h) || !hearing.hasWay()) {
            return -2;
        }
        if (hearing.least(Net.lastOf(g), Net.firstOf(h)) > 0) {
            return 1;
        }
        if (hearing.greatest(Net.lastOf(g), Net.firstOf(h)) <= 0) {
            return -1;
        }
        return 0;
    }

    public int quarrel() {
        if (hearing.hasWay()) {
            return 0;
        }
        hearing.findQuarrel();
        return hearing.quarrelSize;
    }

    public int quarrelled(int i) {
        if (hearing.hasWay()) {
            return NONE;
        }
        hearing.findQuarrel();
        return i >= 0 && i < hearing.quarrelSize ? hearing.quarrelRow[i] : NONE;
    }

    public int leave() {
        return hearing.fewestToLeave();
    }

    public int needless(int t, int k) throws IndexOutOfBoundsException {
        if (!isTeller(t)) {
            throw new IndexOutOfBoundsException("there is no such teller");
        }
        if (!texts[t].has(k) || !hearing.hears(t) || !hearing.hasWay()) {
            return NONE;
        }
        return hearing.followsFromOthers(t, k) ? 1 : 0;
    }

    public int at(int i) {
        if (!names.has(i) || !hearing.hasWay()) {
            return NONE;
        }
        hearing.findLine();
        return hearing.line[i];
    }

    public int sayings(int t) throws IndexOutOfBoundsException {
        if (!isTeller(t)) {
            throw new IndexOutOfBoundsException("there is no such teller");
        }
        return texts[t].size;
    }

    public int count(int what) {
        switch (what) {
            case 0:
                return names.size;
            case 1:
                return sayingsOfAll();
            case 2:
                return hearing.heard;
            case 3:
                return tape.length;
            case 4:
                return outLength();
            default:
                return NONE;
        }
    }

    private static boolean isTeller(int t) {
        return t >= 0 && t < TELLERS;
    }

    private int sayingsOfAll() {
        int sum = 0;
        for (int t = 0; t < TELLERS; t++) {
            sum += texts[t].size;
        }
        return sum;
    }

    private int outLength() {
        return names.has(out) ? names.lengths[out] : 0;
    }

    /** What a TOKEN can be. The words come first and in the order of the kinds of SAYINGS. */
    private enum Token {
        ON("on", 0),
        FROM("from", 1),
        BY("by", 2),
        SINCE("since", 3),
        LASTS("lasts", 4),
        BEFORE("before", 5),
        WHILE("while", 6),
        TO("to", CaseOrder.NONE),
        NAME("", CaseOrder.NONE),
        NUMBER("", CaseOrder.NONE),
        STOP("", CaseOrder.NONE),
        END("", CaseOrder.NONE),
        NO_TOKEN("", CaseOrder.NONE);

        final String spelling;
        final int kind;

        Token(String spelling, int kind) {
            this.spelling = spelling;
            this.kind = kind;
        }
    }

    /** The bytes that have been fed and not yet been taken. */
    private static final class Tape {
        final byte[] bytes = new byte[MOST_TAPE];
        int length = 0;

        void putNumber(int number) {
            for (int shift = 24; shift >= 0; shift -= 8) {
                if (length < MOST_TAPE) {
                    bytes[length] = (byte) (number >> shift);
                    length++;
                }
            }
        }

        boolean isBlank(int place) {
            return bytes[place] == ' ' || bytes[place] == '\n';
        }

        boolean isLetter(int place) {
            return bytes[place] >= 'a' && bytes[place] <= 'z';
        }

        boolean isDigit(int place) {
            return bytes[place] >= '0' && bytes[place] <= '9';
        }

        /** Where the first byte is that is no blank; the tape's length, if there is none. */
        int firstSolid() {
            for (int place = 0; place < length; place++) {
                if (!isBlank(place)) {
                    return place;
                }
            }
            return length;
        }

        /** The place behind the last byte that is no blank; start, if there is none behind it. */
        int afterSolid(int start) {
            for (int place = length; place > start; place--) {
                if (!isBlank(place - 1)) {
                    return place;
                }
            }
            return start;
        }
    }

    /**
     * The NAMES of the HAPPENINGS. Those of a text that is being read stand behind the settled ones,
     * so that a FAULT drops them all by one number.
     */
    private static final class Names {
        private final byte[] letters = new byte[MOST_HAPPENINGS * LONGEST_NAME];
        final int[] lengths = new int[MOST_HAPPENINGS];
        int size = 0;
        private int drafted = 0;

        boolean has(int h) {
            return h >= 0 && h < size;
        }

        int letter(int h, int k) {
            return letters[h * LONGEST_NAME + k];
        }

        int find(Tape tape, int start, int length) {
            for (int h = 0; h < drafted; h++) {
                if (lengths[h] == length && isSpelled(h, tape, start)) {
                    return h;
                }
            }
            return NONE;
        }

        private boolean isSpelled(int h, Tape tape, int start) {
            for (int k = 0; k < lengths[h]; k++) {
                if (tape.bytes[start + k] != letters[h * LONGEST_NAME + k]) {
                    return false;
                }
            }
            return true;
        }

        int findOrDraft(Tape tape, int start, int length) {
            int found = find(tape, start, length);
            if (found != NONE || drafted >= MOST_HAPPENINGS || length > LONGEST_NAME) {
                return found;
            }
            for (int k = 0; k < length; k++) {
                letters[drafted * LONGEST_NAME + k] = tape.bytes[start + k];
            }
            lengths[drafted] = length;
            drafted++;
            return drafted - 1;
        }

        void settle(boolean taken) {
            if (taken) {
                size = drafted;
            } else {
                drafted = size;
            }
        }
    }

    /** One SAYING; parts that it does not have are NONE. */
    private static final class Saying {
        Token word = Token.ON;
        int own = NONE;
        int other = NONE;
        int first = NONE;
        int second = NONE;
        int place = 0;

        void begin(int start, int happening) {
            place = start;
            own = happening;
            other = NONE;
            first = NONE;
            second = NONE;
        }

        /** Puts what the SAYING asks for as links between days. */
        void putInto(Links links) {
            int ownFirst = Net.firstOf(own);
            int ownLast = Net.lastOf(own);
            switch (word) {
                case ON:
                    // The FIRST is not behind the LAST, so these two leave that one DAY to both.
                    links.add(Net.ORIGIN, ownFirst, first);
                    links.add(ownLast, Net.ORIGIN, -first);
                    break;
                case FROM:
                    links.add(Net.ORIGIN, ownFirst, first);
                    links.add(ownFirst, Net.ORIGIN, -first);
                    links.add(Net.ORIGIN, ownLast, second);
                    links.add(ownLast, Net.ORIGIN, -second);
                    break;
                case BY:
                    links.add(ownLast, Net.ORIGIN, -first);
                    break;
                case SINCE:
                    links.add(Net.ORIGIN, ownFirst, first);
                    break;
                case LASTS:
                    links.add(ownFirst, ownLast, first);
                    links.add(ownLast, ownFirst, -most());
                    break;
                case BEFORE:
                    links.add(ownLast, Net.firstOf(other), first == NONE ? 1 : first);
                    if (first != NONE) {
                        links.add(Net.firstOf(other), ownLast, -most());
                    }
                    break;
                case WHILE:
                    links.add(Net.firstOf(other), ownFirst, 0);
                    links.add(ownLast, Net.lastOf(other), 0);
                    break;
                default:
                    break;
            }
        }

        private int most() {
            return second == NONE ? first : second;
        }
    }

    /** The SAYINGS of one text. */
    private static final class Text {
        final Saying[] row = new Saying[MOST_SAYINGS];
        int size = 0;

        Text() {
            for (int k = 0; k < MOST_SAYINGS; k++) {
                row[k] = new Saying();
            }
        }

        boolean has(int k) {
            return k >= 0 && k < size;
        }
    }

    /** A tape cut into TOKENS; an END stands behind the last one. */
    private static final class Tokens {
        private final Token[] types = new Token[MOST_TEXT + 1];
        private final int[] starts = new int[MOST_TEXT + 1];
        private final int[] lengths = new int[MOST_TEXT + 1];
        private int size = 0;

        Tokens() {
            for (int i = 0; i <= MOST_TEXT; i++) {
                types[i] = Token.END;
            }
        }

        /** No TOKEN begins at MOST_TEXT or behind it, but one that begins ahead of it is read whole. */
        void cut(Tape tape) {
            int limit = Math.min(tape.length, MOST_TEXT);
            size = 0;
            for (int place = 0; place < limit; place++) {
                if (!tape.isBlank(place)) {
                    int length = lengthAt(tape, place);
                    put(typeAt(tape, place, length), place, length);
                    place += length - 1;
                }
            }
            put(Token.END, limit, 0);
        }

        private void put(Token type, int start, int length) {
            if (size <= MOST_TEXT) {
                types[size] = type;
                starts[size] = start;
                lengths[size] = length;
                size++;
            }
        }

        private static int lengthAt(Tape tape, int start) {
            int length = 0;
            for (int place = start; place < tape.length; place++) {
                if (!tape.isLetter(place) && !tape.isDigit(place)) {
                    break;
                }
                length++;
            }
            return Math.max(length, 1);
        }

        private static Token typeAt(Tape tape, int start, int length) {
            if (tape.bytes[start] == ';') {
                return Token.STOP;
            }
            int digits = 0;
            int letters = 0;
            for (int place = start; place < start + length; place++) {
                digits += tape.isDigit(place) ? 1 : 0;
                letters += tape.isLetter(place) ? 1 : 0;
            }
            if (digits == length && length <= LONGEST_NUMBER) {
                return Token.NUMBER;
            }
            if (letters == length && length <= LONGEST_NAME) {
                return wordAt(tape, start, length);
            }
            return Token.NO_TOKEN;
        }

        private static Token wordAt(Tape tape, int start, int length) {
            for (int i = 0; i < TOKENS.length; i++) {
                if (isSpelled(TOKENS[i].spelling, tape, start, length)) {
                    return TOKENS[i];
                }
            }
            return Token.NAME;
        }

        private static boolean isSpelled(String spelling, Tape tape, int start, int length) {
            if (spelling.length() != length) {
                return false;
            }
            for (int k = 0; k < length; k++) {
                if (spelling.charAt(k) != tape.bytes[start + k]) {
                    return false;
                }
            }
            return true;
        }
    }

    /** Reads a text into SAYINGS, or finds its FAULT. */
    private static final class Reader {
        private final Tokens tokens = new Tokens();
        private final Tape tape;
        private final Names names;
        private int here = 0;
        int faultKind = NO_FAULT;
        int faultPlace = 0;

        Reader(Tape tape, Names names) {
            this.tape = tape;
            this.names = names;
        }

        boolean read(Text into) {
            tokens.cut(tape);
            here = 0;
            faultKind = NO_FAULT;
            into.size = 0;
            for (int k = 0; k <= MOST_SAYINGS && faultKind == NO_FAULT && !is(Token.END); k++) {
                if (readBeginning(k, into) && readRest(into.row[k])) {
                    into.size = k + 1;
                }
            }
            if (faultKind == NO_FAULT && tape.length > MOST_TEXT) {
                refuse(WRONG_TOKEN);
            }
            names.settle(faultKind == NO_FAULT);
            return faultKind == NO_FAULT;
        }

        private boolean is(Token type) {
            return tokens.types[here] == type;
        }

        /** Goes on behind a TOKEN that has been found right, which the END never is. */
        private boolean pass() {
            if (here < MOST_TEXT) {
                here++;
            }
            return true;
        }

        private boolean refuse(int kind) {
            faultKind = kind;
            faultPlace = tokens.starts[here];
            return false;
        }

        private boolean readBeginning(int k, Text into) {
            if (!is(Token.NAME)) {
                return refuse(WRONG_TOKEN);
            }
            if (k >= MOST_SAYINGS) {
                return refuse(TOO_MANY);
            }
            int happening = names.findOrDraft(tape, tokens.starts[here], tokens.lengths[here]);
            if (happening == NONE) {
                return refuse(TOO_MANY);
            }
            into.row[k].begin(tokens.starts[here], happening);
            return pass();
        }

        private boolean readRest(Saying said) {
            said.word = tokens.types[here];
            if (said.word.kind == NONE) {
                return refuse(WRONG_TOKEN);
            }
            pass();
            switch (said.word) {
                case FROM:
                    return readFirst(said, 0) && readSecond(said) && readStop();
                case LASTS:
                    return readFirst(said, 0) && readSecondIfAny(said) && readStop();
                case BEFORE:
                    return readOther(said) && readGapIfAny(said) && readSecondIfAny(said) && readStop();
                case WHILE:
                    return readOther(said) && readStop();
                default:
                    return readFirst(said, 0) && readStop();
            }
        }

        private boolean readOther(Saying said) {
            if (!is(Token.NAME)) {
                return refuse(WRONG_TOKEN);
            }
            said.other = names.findOrDraft(tape, tokens.starts[here], tokens.lengths[here]);
            if (said.other == said.own) {
                return refuse(SAME_NAME);
            }
            return said.other == NONE ? refuse(TOO_MANY) : pass();
        }

        private boolean readGapIfAny(Saying said) {
            if (!is(Token.BY)) {
                return true;
            }
            pass();
            return readFirst(said, 1);
        }

        private boolean readFirst(Saying said, int least) {
            said.first = readNumber(least);
            return said.first != NONE;
        }

        /** Without a first NUMBER there is none; a 'to' is found wrong where the SAYING should stop. */
        private boolean readSecondIfAny(Saying said) {
            return said.first == NONE || !is(Token.TO) || readSecond(said);
        }

        private boolean readSecond(Saying said) {
            if (!is(Token.TO)) {
                return refuse(WRONG_TOKEN);
            }
            pass();
            said.second = readNumber(said.first);
            return said.second != NONE;
        }

        private boolean readStop() {
            return is(Token.STOP) ? pass() : refuse(WRONG_TOKEN);
        }

        private int readNumber(int least) {
            if (!is(Token.NUMBER)) {
                refuse(WRONG_TOKEN);
                return NONE;
            }
            int number = 0;
            for (int k = 0; k < tokens.lengths[here]; k++) {
                number = 10 * number + tape.bytes[tokens.starts[here] + k] - '0';
            }
            if (number < least) {
                refuse(WRONG_NUMBER);
                return NONE;
            }
            pass();
            return number;
        }
    }

    /** Links between days: the head is at least the gap behind the tail. */
    private static final class Links {
        /** A SAYING with 'from' puts the most. */
        static final int MOST_OF_SAYING = 4;

        private final int most;
        final int[] tails;
        final int[] heads;
        final int[] gaps;
        int size = 0;

        Links(int most) {
            this.most = most;
            tails = new int[most];
            heads = new int[most];
            gaps = new int[most];
        }

        void add(int tail, int head, int gap) {
            if (size < most) {
                tails[size] = tail;
                heads[size] = head;
                gaps[size] = gap;
                size++;
            }
        }
    }

    /**
     * The days of all HAPPENINGS with links between them. As every link is a difference of two days
     * at least, a longest way along links is the least difference in all WAYS, and a round of links
     * that is longer than nothing means that there is no WAY.
     */
    private static final class Net {
        /** Stands for DAY 0, so that DAYS themselves are differences, too. */
        static final int ORIGIN = 0;
        private static final int MOST_NODES = 1 + 2 * MOST_HAPPENINGS;
        private static final int MOST_LINKS =
            3 * MOST_HAPPENINGS + TELLERS * MOST_SAYINGS * Links.MOST_OF_SAYING;
        /** Far below what any row of links can sum up to. */
        private static final int UNREACHED = -1_000_000_000;

        final Links links = new Links(MOST_LINKS);
        final int[] least = new int[MOST_NODES];
        private int nodes = 1;

        static int firstOf(int h) {
            return 1 + 2 * h;
        }

        static int lastOf(int h) {
            return 2 + 2 * h;
        }

        /** Leaves only the links that every HAPPENING has by itself; they join each day to each other. */
        void open(int happenings) {
            nodes = 1 + 2 * Math.min(happenings, MOST_HAPPENINGS);
            links.size = 0;
            for (int h = 0; h < happenings; h++) {
                links.add(ORIGIN, firstOf(h), 0);
                links.add(firstOf(h), lastOf(h), 0);
                links.add(lastOf(h), ORIGIN, -LAST_DAY);
            }
        }

        /** Finds the least that each day is behind the source; false, if there is no WAY. */
        boolean measureFrom(int source) {
            for (int node = 0; node < nodes; node++) {
                least[node] = UNREACHED;
            }
            least[source] = 0;
            for (int round = 0; round < nodes; round++) {
                if (!pushAll()) {
                    return true;
                }
                if (least[source] > 0) {
                    return false;
                }
            }
            return false;
        }

        private boolean pushAll() {
            boolean pushed = false;
            for (int i = 0; i < links.size; i++) {
                int from = least[links.tails[i]];
                if (from != UNREACHED && from + links.gaps[i] > least[links.heads[i]]) {
                    least[links.heads[i]] = from + links.gaps[i];
                    pushed = true;
                }
            }
            return pushed;
        }
    }

    /** What follows from the SAYINGS of those HEARD; what is found is kept until they change. */
    private static final class Hearing {
        private final Text[] texts;
        private final Names names;
        private final Net net = new Net();
        private final Links claims = new Links(Links.MOST_OF_SAYING);
        private final boolean[] leftOut = new boolean[TELLERS * MOST_SAYINGS];
        final int[] quarrelRow = new int[TELLERS * MOST_SAYINGS];
        final int[] line = new int[MOST_HAPPENINGS];
        int heard = ALL_TELLERS;
        int quarrelSize = 0;
        private boolean wayKnown = false;
        private boolean way = false;
        private boolean quarrelKnown = false;
        private boolean lineKnown = false;

        Hearing(Text[] texts, Names names) {
            this.texts = texts;
            this.names = names;
        }

        void forget() {
            wayKnown = false;
            quarrelKnown = false;
            lineKnown = false;
        }

        boolean hears(int t) {
            return (heard >> t & 1) == 1;
        }

        boolean hasWay() {
            if (!wayKnown) {
                way = isWayFor(heard);
                wayKnown = true;
            }
            return way;
        }

        /** The least of day less from, in all WAYS of those HEARD. */
        int least(int from, int day) {
            gather(heard);
            net.measureFrom(from);
            return net.least[day];
        }

        int greatest(int from, int day) {
            return -least(day, from);
        }

        private boolean isWayFor(int tellers) {
            gather(tellers);
            return net.measureFrom(Net.ORIGIN);
        }

        private void gather(int tellers) {
            net.open(names.size);
            for (int t = 0; t < TELLERS; t++) {
                if ((tellers >> t & 1) == 1) {
                    for (int k = 0; k < texts[t].size; k++) {
                        if (!leftOut[slot(t, k)]) {
                            texts[t].row[k].putInto(net.links);
                        }
                    }
                }
            }
        }

        private static int slot(int t, int k) {
            return t * MOST_SAYINGS + k;
        }

        /** Is asked only where there is no WAY. */
        void findQuarrel() {
            if (quarrelKnown) {
                return;
            }
            quarrelKnown = true;
            quarrelSize = 0;
            for (int t = 0; t < TELLERS; t++) {
                for (int k = 0; hears(t) && k < texts[t].size; k++) {
                    leftOut[slot(t, k)] = true;
                    if (isWayFor(heard)) {
                        leftOut[slot(t, k)] = false;
                        quarrelRow[quarrelSize] = 100 * t + k;
                        quarrelSize++;
                    }
                }
            }
            for (int i = 0; i < TELLERS * MOST_SAYINGS; i++) {
                leftOut[i] = false;
            }
        }

        int fewestToLeave() {
            if (hasWay()) {
                return 0;
            }
            for (int few = 1; few < TELLERS; few++) {
                for (int tellers = 1; tellers < ALL_TELLERS; tellers++) {
                    boolean heardAll = (tellers & ~heard) == 0;
                    if (heardAll && Integer.bitCount(tellers) == few && isWayFor(heard & ~tellers)) {
                        return tellers;
                    }
                }
            }
            // Where no teller is left, there is always a WAY.
            return heard;
        }

        boolean followsFromOthers(int t, int k) {
            leftOut[slot(t, k)] = true;
            gather(heard);
            leftOut[slot(t, k)] = false;
            claims.size = 0;
            texts[t].row[k].putInto(claims);
            for (int i = 0; i < claims.size; i++) {
                net.measureFrom(claims.tails[i]);
                if (net.least[claims.heads[i]] < claims.gaps[i]) {
                    return false;
                }
            }
            return true;
        }

        /** Is asked only where there is a WAY. */
        void findLine() {
            if (lineKnown) {
                return;
            }
            lineKnown = true;
            isWayFor(heard);
            for (int h = 0; h < names.size; h++) {
                int place = h;
                while (place > 0 && isEarlier(h, line[place - 1])) {
                    line[place] = line[place - 1];
                    place--;
                }
                line[place] = h;
            }
        }

        /** Like ones are not earlier, so that the lower number stays ahead. */
        private boolean isEarlier(int g, int h) {
            int byFirst = Integer.compare(net.least[Net.firstOf(g)], net.least[Net.firstOf(h)]);
            if (byFirst != 0) {
                return byFirst < 0;
            }
            return net.least[Net.lastOf(g)] < net.least[Net.lastOf(h)];
        }
    }
}
