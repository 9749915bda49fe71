/**
 * A desk for the words of a new machine's orders. What is told by a text (fields, orders, aliases,
 * rooms) is laid into words of one or two units; orders that come later go to the rooms kept for them.
 */
public final class WordMint {
    public static final int NONE = -1;

    private static final int NO_WAY = -2;
    private static final int NOT_LAID = -3;

    private static final int MOST_BYTES = 3000;
    private static final int BYTES_FED = 20;
    private static final int NO_BYTE = -1;

    private static final int MOST_TOKENS = 600;
    private static final int MOST_LETTERS = 8;
    private static final int MOST_DIGITS = 5;

    private static final int MOST_FIELDS = 12;
    private static final int MOST_TOLD_ORDERS = 24;
    private static final int MOST_ORDERS = 40;
    private static final int MOST_ALIASES = 16;
    private static final int MOST_ROOMS = 4;
    private static final int MOST_MEMBERS = 6;

    private static final int MOST_WIDTH = 16;
    private static final int MOST_BITS = 24;
    private static final int MOST_USE = 10000;
    private static final int MOST_ROOM_ORDERS = 64;
    private static final int MOST_GIVEN = 65535;

    private static final int MOST_MARKS = MOST_ORDERS + MOST_ROOMS * MOST_ROOM_ORDERS;
    private static final int MOST_MARK_BITS = 32;

    private static final int NO_FAULT = 0;
    private static final int SYNTAX = 1;
    private static final int ROOM_FAULT = 2;
    private static final int TWICE = 3;
    private static final int NAME_FAULT = 4;
    private static final int WRONG = 5;

    private static final int A_NAME = 0;
    private static final int A_NUMBER = 1;
    private static final int COLON = 2;
    private static final int SEMICOLON = 3;
    private static final int COMMA = 4;
    private static final int EQUALS = 5;
    private static final int FIELD = 6;
    private static final int ORDER = 7;
    private static final int ALIAS = 8;
    private static final int ROOM = 9;
    private static final int END = 10;
    private static final int NO_TOKEN = 11;
    private static final int KINDS = 12;

    private static final int START = 0;
    private static final int ORDER_MEMBER = 7;
    private static final int ALIAS_MEMBER = 13;

    /** For each state of the grammar a row: the state behind each kind of token, NONE where no text goes on. */
    private static final int[] NEXT_STATE = {
        // NAME NUMBER : ; , = field order alias room end none
        -1, -1, -1, -1, -1, -1, 1, 4, 9, 15, 0, -1, // 0: a TELL, or the end
        2, -1, -1, -1, -1, -1, -1, -1, -1, -1, -1, -1, // 1: field's NAME
        -1, 3, -1, -1, -1, -1, -1, -1, -1, -1, -1, -1, // 2: its WIDTH
        -1, -1, -1, 0, -1, -1, -1, -1, -1, -1, -1, -1, // 3: the ; of a field or a room
        5, -1, -1, -1, -1, -1, -1, -1, -1, -1, -1, -1, // 4: order's NAME
        -1, 6, -1, -1, -1, -1, -1, -1, -1, -1, -1, -1, // 5: its USE
        -1, -1, 7, 0, -1, -1, -1, -1, -1, -1, -1, -1, // 6: its : or ;
        8, -1, -1, -1, -1, -1, -1, -1, -1, -1, -1, -1, // 7: a FIELD of it
        -1, -1, -1, 0, 7, -1, -1, -1, -1, -1, -1, -1, // 8: , or ; behind that
        10, -1, -1, -1, -1, -1, -1, -1, -1, -1, -1, -1, // 9: alias's NAME
        -1, -1, -1, -1, -1, 11, -1, -1, -1, -1, -1, -1, // 10: its =
        12, -1, -1, -1, -1, -1, -1, -1, -1, -1, -1, -1, // 11: its ORDER
        -1, -1, -1, 0, 13, -1, -1, -1, -1, -1, -1, -1, // 12: , or ; behind that
        14, -1, -1, -1, -1, -1, -1, -1, -1, -1, -1, -1, // 13: a FIELD of it
        -1, 12, -1, -1, -1, -1, -1, -1, -1, -1, -1, -1, // 14: the held number
        -1, 16, -1, -1, -1, -1, -1, -1, -1, -1, -1, -1, // 15: room's ORDERS
        -1, 3, -1, -1, -1, -1, -1, -1, -1, -1, -1, -1, // 16: its bits
    };

    private final Tape tape;
    private final Parser parser;
    private final Teller teller;
    private Told told;
    private Told draft;
    private final Chooser chooser;
    private final Layout layout;
    private final Decoder decoder;
    private final Reading reading;
    private final int[] given;
    private int faultPlace;

    public WordMint() {
        tape = new Tape();
        parser = new Parser();
        teller = new Teller(parser);
        told = new Told();
        draft = new Told();
        chooser = new Chooser();
        layout = new Layout();
        decoder = new Decoder();
        reading = new Reading();
        given = new int[MOST_MEMBERS];
        faultPlace = NONE;
    }

    public int feed(int a, int b, int c, int d, int e) {
        if (tape.length > MOST_BYTES - BYTES_FED) {
            return NONE;
        }
        tape.append(a);
        tape.append(b);
        tape.append(c);
        tape.append(d);
        tape.append(e);
        return tape.length;
    }

    public int back(int n) {
        if (n < 0 || n > tape.length) {
            return NONE;
        }
        tape.length -= n;
        return tape.length;
    }

    public int read() {
        draft.clear();
        int fault = parser.parse(tape, false, 0);
        if (fault == NO_FAULT) {
            fault = teller.tellAll(draft);
        }
        tape.length = 0;
        faultPlace = parser.faultPlace;
        if (fault == NO_FAULT) {
            Told former = told;
            told = draft;
            draft = former;
            layout.unit = 0;
            reading.order = NONE;
        }
        return fault;
    }

    public int place() {
        return faultPlace;
    }

    public int lay(int u) {
        if (u != 8 && u != 16) {
            return NONE;
        }
        long shorts = chooser.choose(told, u);
        if (shorts < 0) {
            return NO_WAY;
        }
        layout.layAll(told, shorts, u);
        decoder.stale = true;
        reading.order = NONE;
        return layout.cost;
    }

    public int add() {
        if (layout.unit == 0) {
            tape.length = 0;
            return NOT_LAID;
        }
        int fault = parser.parse(tape, true, told.orders);
        if (fault == NO_FAULT) {
            fault = teller.tellComing(told);
        }
        tape.length = 0;
        if (fault != NO_FAULT) {
            faultPlace = parser.faultPlace;
            return NONE;
        }
        int k = told.orders;
        if (!layout.layComing(told, k)) {
            return NO_WAY;
        }
        told.orders = k + 1;
        decoder.stale = true;
        faultPlace = NONE;
        return k;
    }

    public int order(int k, int what) {
        if (k < 0 || k >= told.orders) {
            return NONE;
        }
        if (what >= 20 && what < 20 + told.sizes[k]) {
            return told.members[k * MOST_MEMBERS + what - 20];
        }
        switch (what) {
            case 0:
                return told.uses[k];
            case 1:
                return told.sizes[k];
            case 2:
                return told.bits[k];
            default:
                return layout.unit == 0 ? NONE : orderAsLaid(k, what);
        }
    }

    private int orderAsLaid(int k, int what) {
        if (what >= 10 && what < 10 + told.sizes[k]) {
            return layout.places[k * MOST_MEMBERS + what - 10];
        }
        switch (what) {
            case 3:
                return layout.units[k];
            case 4:
                return layout.markBits[k];
            case 5:
                return (int) layout.marks[k];
            case 6:
                return layout.came[k] ? 1 : 0;
            case 7:
                decoder.refresh(told, layout);
                return decoder.testsAhead[k];
            default:
                return NONE;
        }
    }

    public int field(int k, int what) {
        if (k < 0 || k >= told.fields) {
            return NONE;
        }
        switch (what) {
            case 0:
                return told.widths[k];
            case 1:
                return told.ordersWith(k);
            case 2:
                return layout.unit == 0 ? NONE : Integer.bitCount(layout.placesSeen[k]);
            default:
                return NONE;
        }
    }

    public int room(int k, int what) {
        if (k < 0 || k >= told.rooms) {
            return NONE;
        }
        if (what == 0) {
            return told.roomOrders[k];
        }
        if (what == 1) {
            return told.roomBits[k];
        }
        if (layout.unit == 0) {
            return NONE;
        }
        switch (what) {
            case 2:
                return layout.taken[k];
            case 3:
                return layout.roomMarkBits[k];
            case 4:
                return (int) layout.roomMarks[k];
            default:
                return NONE;
        }
    }

    public int alias(int k, int what) {
        if (k < 0 || k >= told.aliases) {
            return NONE;
        }
        int held = told.heldCounts[k];
        if (what == 0) {
            return told.aliasOrders[k];
        }
        if (what == 1) {
            return held;
        }
        if (what >= 10 && what < 10 + held) {
            return told.heldFields[k * MOST_MEMBERS + what - 10];
        }
        if (what >= 20 && what < 20 + held) {
            return told.heldNumbers[k * MOST_MEMBERS + what - 20];
        }
        return NONE;
    }

    public boolean give(int i, int v) {
        if (i < 0 || i >= MOST_MEMBERS || v < 0 || v > MOST_GIVEN) {
            return false;
        }
        given[i] = v;
        return true;
    }

    public long word(int k) {
        if (k < 0 || k >= told.orders || layout.unit == 0) {
            return NONE;
        }
        long bits = layout.marks[k] << told.bits[k];
        for (int i = 0; i < told.sizes[k]; i++) {
            if (!told.holds(told.members[k * MOST_MEMBERS + i], given[i])) {
                return NONE;
            }
            bits |= (long) given[i] << layout.places[k * MOST_MEMBERS + i];
        }
        return bits;
    }

    public int reads(long w, int units) {
        if (layout.unit == 0 || units < 1 || units > 2) {
            return NONE;
        }
        for (int k = 0; k < told.orders; k++) {
            long found = layout.wordAhead(k, w, units);
            if (found != NONE && found >> told.bits[k] == layout.marks[k]) {
                reading.keep(told, layout, k, found);
                return k;
            }
        }
        return NONE;
    }

    public int got(int i) {
        if (reading.order == NONE) {
            return NONE;
        }
        if (i == NONE) {
            return reading.alias;
        }
        return i >= 0 && i < reading.size ? reading.numbers[i] : NONE;
    }

    public int tests(int what) {
        if (layout.unit == 0 || what < 0 || what > 2) {
            return NONE;
        }
        decoder.refresh(told, layout);
        if (what == 0) {
            return decoder.asked;
        }
        return what == 1 ? decoder.deepest : decoder.ends;
    }

    public int count(int what) {
        boolean laid = layout.unit != 0;
        switch (what) {
            case 0:
                return told.fields;
            case 1:
                return told.orders;
            case 2:
                return told.aliases;
            case 3:
                return told.rooms;
            case 4:
                return layout.unit;
            case 5:
                return laid ? layout.shortOrders(told) : 0;
            case 6:
                return laid ? layout.cost : 0;
            case 7:
                return laid ? layout.freeMarks(told) : 0;
            case 8:
                return tape.length;
            default:
                return NONE;
        }
    }

    private static final class Tape {
        final byte[] bytes = new byte[MOST_BYTES];
        int length;

        void append(int four) {
            if (length > MOST_BYTES - 4) {
                return;
            }
            for (int i = 0; i < 4; i++) {
                bytes[length + i] = (byte) (four >>> (24 - 8 * i));
            }
            length += 4;
        }

        int byteAt(int i) {
            return i >= 0 && i < length ? bytes[i] & 255 : NO_BYTE;
        }

        boolean spells(String text, int from, int size) {
            if (text.length() != size) {
                return false;
            }
            for (int i = 0; i < size; i++) {
                if (byteAt(from + i) != text.charAt(i)) {
                    return false;
                }
            }
            return true;
        }
    }

    /** The token found latest. */
    private static final class Scanner {
        int kind;
        int begin;
        int behind;
        long value;

        void scan(Tape tape, int from) {
            begin = behindBlanks(tape, from);
            behind = begin + 1;
            value = 0;
            int first = tape.byteAt(begin);
            if (isLetter(first)) {
                scanWord(tape);
            } else if (isDigit(first)) {
                scanNumber(tape);
            } else {
                kind = signKind(first);
            }
        }

        private void scanWord(Tape tape) {
            int at = begin;
            while (at <= begin + MOST_LETTERS && isLetterOrDigit(tape.byteAt(at))) {
                value = value * 37 + letterCode(tape.byteAt(at));
                at++;
            }
            behind = at;
            kind = at - begin > MOST_LETTERS ? NO_TOKEN : wordKind(tape, begin, at - begin);
        }

        private void scanNumber(Tape tape) {
            int at = begin;
            while (at <= begin + MOST_DIGITS && isDigit(tape.byteAt(at))) {
                value = value * 10 + tape.byteAt(at) - '0';
                at++;
            }
            behind = at;
            kind = at - begin > MOST_DIGITS ? NO_TOKEN : A_NUMBER;
        }

        private static int behindBlanks(Tape tape, int from) {
            int at = from;
            while (at < tape.length && isBlank(tape.byteAt(at))) {
                at++;
            }
            return at;
        }

        private static int wordKind(Tape tape, int from, int size) {
            if (tape.spells("field", from, size)) {
                return FIELD;
            }
            if (tape.spells("order", from, size)) {
                return ORDER;
            }
            if (tape.spells("alias", from, size)) {
                return ALIAS;
            }
            return tape.spells("room", from, size) ? ROOM : A_NAME;
        }

        private static int signKind(int c) {
            switch (c) {
                case ':':
                    return COLON;
                case ';':
                    return SEMICOLON;
                case ',':
                    return COMMA;
                case '=':
                    return EQUALS;
                case NO_BYTE:
                    return END;
                default:
                    return NO_TOKEN;
            }
        }

        private static boolean isBlank(int c) {
            return c == 9 || c == 10 || c == 13 || c == 32;
        }

        private static boolean isLetter(int c) {
            return c >= 'a' && c <= 'z';
        }

        private static boolean isDigit(int c) {
            return c >= '0' && c <= '9';
        }

        private static boolean isLetterOrDigit(int c) {
            return isLetter(c) || isDigit(c);
        }

        /** 1 .. 36, so that eight of them make one long that no other NAME has. */
        private static int letterCode(int c) {
            return isLetter(c) ? c - 'a' + 1 : c - '0' + 27;
        }
    }

    /** Keeps the tokens of a text, and looks for the FAULTS that its grammar and its size have. */
    private static final class Parser {
        final Scanner scanner = new Scanner();
        final int[] kinds = new int[MOST_TOKENS];
        final int[] begins = new int[MOST_TOKENS];
        final long[] values = new long[MOST_TOKENS];
        int size;
        int faultPlace = NONE;

        private boolean oneOrder;
        private int fields;
        private int orders;
        private int aliases;
        private int rooms;
        private int members;

        /** With oneOrder the text is one ORDER alone, that comes to those that are there. */
        int parse(Tape tape, boolean oneOrderAlone, int ordersThere) {
            forget();
            oneOrder = oneOrderAlone;
            orders = ordersThere;
            int state = START;
            int from = 0;
            for (int n = 0; n <= MOST_TOKENS; n++) {
                scanner.scan(tape, from);
                if (!goesOn(state)) {
                    return faultAt(SYNTAX, scanner.begin);
                }
                if (scanner.kind == END) {
                    return NO_FAULT;
                }
                if (n == MOST_TOKENS || !hasRoom(state)) {
                    return faultAt(ROOM_FAULT, scanner.begin);
                }
                keepToken();
                state = stateBehind(state);
                from = scanner.behind;
            }
            return NO_FAULT;
        }

        int faultAt(int fault, int place) {
            faultPlace = place;
            return fault;
        }

        int faultAtToken(int fault, int t) {
            return faultAt(fault, t >= 0 && t < size ? begins[t] : NONE);
        }

        int kindAt(int t) {
            return t >= 0 && t < size ? kinds[t] : END;
        }

        long valueAt(int t) {
            return t >= 0 && t < size ? values[t] : 0;
        }

        private void forget() {
            size = 0;
            fields = 0;
            aliases = 0;
            rooms = 0;
            members = 0;
            faultPlace = NONE;
        }

        private void keepToken() {
            if (size < MOST_TOKENS) {
                kinds[size] = scanner.kind;
                begins[size] = scanner.begin;
                values[size] = scanner.value;
                size++;
            }
        }

        private boolean goesOn(int state) {
            if (oneOrder && state == START) {
                return scanner.kind == (size == 0 ? ORDER : END);
            }
            return stateBehind(state) != NONE;
        }

        private int stateBehind(int state) {
            int at = state * KINDS + scanner.kind;
            return at >= 0 && at < NEXT_STATE.length ? NEXT_STATE[at] : NONE;
        }

        private boolean hasRoom(int state) {
            if (state == START) {
                members = 0;
                return hasRoomForTell();
            }
            if (state == ORDER_MEMBER || state == ALIAS_MEMBER) {
                members++;
            }
            return members <= MOST_MEMBERS;
        }

        private boolean hasRoomForTell() {
            switch (scanner.kind) {
                case FIELD:
                    fields++;
                    return fields <= MOST_FIELDS;
                case ORDER:
                    orders++;
                    return orders <= (oneOrder ? MOST_ORDERS : MOST_TOLD_ORDERS);
                case ALIAS:
                    aliases++;
                    return aliases <= MOST_ALIASES;
                default:
                    rooms++;
                    return rooms <= MOST_ROOMS;
            }
        }
    }

    /** What a text tells. ORDERS that came stand behind those of the text. */
    private static final class Told {
        int fields;
        final long[] fieldNames = new long[MOST_FIELDS];
        final int[] widths = new int[MOST_FIELDS];
        int orders;
        final long[] orderNames = new long[MOST_ORDERS];
        final int[] uses = new int[MOST_ORDERS];
        final int[] sizes = new int[MOST_ORDERS];
        final int[] bits = new int[MOST_ORDERS];
        final int[] members = new int[MOST_ORDERS * MOST_MEMBERS];
        int aliases;
        final long[] aliasNames = new long[MOST_ALIASES];
        final int[] aliasOrders = new int[MOST_ALIASES];
        final int[] heldCounts = new int[MOST_ALIASES];
        final int[] heldFields = new int[MOST_ALIASES * MOST_MEMBERS];
        final int[] heldNumbers = new int[MOST_ALIASES * MOST_MEMBERS];
        int rooms;
        final int[] roomOrders = new int[MOST_ROOMS];
        final int[] roomBits = new int[MOST_ROOMS];

        void clear() {
            fields = 0;
            orders = 0;
            aliases = 0;
            rooms = 0;
        }

        int fieldNamed(long name) {
            return indexOf(fieldNames, fields, name);
        }

        int orderNamed(long name) {
            return indexOf(orderNames, orders, name);
        }

        boolean hasOrderOrAlias(long name) {
            return orderNamed(name) != NONE || indexOf(aliasNames, aliases, name) != NONE;
        }

        /** Which FIELD of ORDER k the FIELD is, NONE if it is none of it. */
        int memberOf(int k, int field) {
            for (int i = 0; i < sizes[k]; i++) {
                if (members[k * MOST_MEMBERS + i] == field) {
                    return i;
                }
            }
            return NONE;
        }

        int ordersWith(int field) {
            int with = 0;
            for (int k = 0; k < orders; k++) {
                if (memberOf(k, field) != NONE) {
                    with++;
                }
            }
            return with;
        }

        boolean holds(int field, long number) {
            return number >> widths[field] == 0;
        }

        private static int indexOf(long[] names, int size, long name) {
            for (int i = 0; i < size && i < names.length; i++) {
                if (names[i] == name) {
                    return i;
                }
            }
            return NONE;
        }
    }

    /**
     * Carries over what the parser's tokens tell, and looks for the FAULTS that their meaning has. Each
     * method takes the token at which its TELL begins, and stops at the first FAULT by place.
     */
    private static final class Teller {
        private final Parser parser;
        private int behind;

        Teller(Parser parser) {
            this.parser = parser;
        }

        int tellAll(Told told) {
            int fault = NO_FAULT;
            behind = 0;
            for (int n = 0; n < MOST_TOKENS && behind < parser.size && fault == NO_FAULT; n++) {
                fault = tellNext(told, behind);
            }
            return fault;
        }

        /** The ORDER that comes stands behind the others, not counted yet. */
        int tellComing(Told told) {
            return tellOrder(told, 0);
        }

        private int tellNext(Told told, int t) {
            int fault;
            switch (parser.kindAt(t)) {
                case FIELD:
                    return tellField(told, t);
                case ORDER:
                    fault = tellOrder(told, t);
                    if (fault == NO_FAULT) {
                        told.orders++;
                    }
                    return fault;
                case ALIAS:
                    return tellAlias(told, t);
                default:
                    return tellRoom(told, t);
            }
        }

        private int tellField(Told told, int t) {
            int k = told.fields;
            long name = parser.valueAt(t + 1);
            int width = (int) parser.valueAt(t + 2);
            if (told.fieldNamed(name) != NONE) {
                return parser.faultAtToken(TWICE, t + 1);
            }
            if (width < 1 || width > MOST_WIDTH) {
                return parser.faultAtToken(WRONG, t + 2);
            }
            if (k >= MOST_FIELDS) {
                return parser.faultAtToken(ROOM_FAULT, t);
            }
            told.fieldNames[k] = name;
            told.widths[k] = width;
            told.fields = k + 1;
            behind = t + 4;
            return NO_FAULT;
        }

        private int tellOrder(Told told, int t) {
            int k = told.orders;
            long name = parser.valueAt(t + 1);
            int use = (int) parser.valueAt(t + 2);
            int bits = bitsOfKnownFields(told, t + 4);
            if (k >= MOST_ORDERS) {
                return parser.faultAtToken(ROOM_FAULT, t);
            }
            if (told.hasOrderOrAlias(name)) {
                return parser.faultAtToken(TWICE, t + 1);
            }
            if (bits > MOST_BITS) {
                return parser.faultAtToken(WRONG, t + 1);
            }
            if (use > MOST_USE) {
                return parser.faultAtToken(WRONG, t + 2);
            }
            told.orderNames[k] = name;
            told.uses[k] = use;
            told.bits[k] = bits;
            return tellMembers(told, k, t + 3);
        }

        /** The sign at t is the : ahead of the FIELDS, or the ; of an ORDER without. */
        private int tellMembers(Told told, int k, int t) {
            told.sizes[k] = 0;
            int sign = t;
            for (int i = 0; i < MOST_MEMBERS && parser.kindAt(sign) != SEMICOLON; i++) {
                int field = told.fieldNamed(parser.valueAt(sign + 1));
                if (field == NONE) {
                    return parser.faultAtToken(NAME_FAULT, sign + 1);
                }
                if (told.memberOf(k, field) != NONE) {
                    return parser.faultAtToken(TWICE, sign + 1);
                }
                told.members[k * MOST_MEMBERS + i] = field;
                told.sizes[k] = i + 1;
                sign += 2;
            }
            behind = sign + 1;
            return NO_FAULT;
        }

        /** Counted ahead of the FIELDS' own FAULTS, as its FAULT stands at the ORDER's NAME. */
        private int bitsOfKnownFields(Told told, int firstMember) {
            int bits = 0;
            int counted = 0;
            for (int i = 0; i < MOST_MEMBERS && parser.kindAt(firstMember + 2 * i - 1) != SEMICOLON; i++) {
                int field = told.fieldNamed(parser.valueAt(firstMember + 2 * i));
                if (field != NONE && (counted >> field & 1) == 0) {
                    counted |= 1 << field;
                    bits += told.widths[field];
                }
            }
            return bits;
        }

        private int tellAlias(Told told, int t) {
            int k = told.aliases;
            long name = parser.valueAt(t + 1);
            int order = told.orderNamed(parser.valueAt(t + 3));
            if (told.hasOrderOrAlias(name)) {
                return parser.faultAtToken(TWICE, t + 1);
            }
            if (order == NONE) {
                return parser.faultAtToken(NAME_FAULT, t + 3);
            }
            if (k >= MOST_ALIASES) {
                return parser.faultAtToken(ROOM_FAULT, t);
            }
            told.aliasNames[k] = name;
            told.aliasOrders[k] = order;
            int fault = tellHeld(told, k, t + 4);
            if (fault == NO_FAULT) {
                told.aliases = k + 1;
            }
            return fault;
        }

        /** The sign at t is the , ahead of the first held FIELD, or the ; of an ALIAS without. */
        private int tellHeld(Told told, int k, int t) {
            told.heldCounts[k] = 0;
            int sign = t;
            for (int i = 0; i < MOST_MEMBERS && parser.kindAt(sign) != SEMICOLON; i++) {
                int field = told.fieldNamed(parser.valueAt(sign + 1));
                long number = parser.valueAt(sign + 2);
                if (field == NONE || told.memberOf(told.aliasOrders[k], field) == NONE) {
                    return parser.faultAtToken(NAME_FAULT, sign + 1);
                }
                if (isHeld(told, k, field)) {
                    return parser.faultAtToken(TWICE, sign + 1);
                }
                if (!told.holds(field, number)) {
                    return parser.faultAtToken(WRONG, sign + 2);
                }
                told.heldFields[k * MOST_MEMBERS + i] = field;
                told.heldNumbers[k * MOST_MEMBERS + i] = (int) number;
                told.heldCounts[k] = i + 1;
                sign += 3;
            }
            behind = sign + 1;
            return NO_FAULT;
        }

        private static boolean isHeld(Told told, int k, int field) {
            for (int i = 0; i < told.heldCounts[k]; i++) {
                if (told.heldFields[k * MOST_MEMBERS + i] == field) {
                    return true;
                }
            }
            return false;
        }

        private int tellRoom(Told told, int t) {
            int k = told.rooms;
            int orders = (int) parser.valueAt(t + 1);
            int bits = (int) parser.valueAt(t + 2);
            if (orders < 1 || orders > MOST_ROOM_ORDERS) {
                return parser.faultAtToken(WRONG, t + 1);
            }
            if (bits > MOST_BITS) {
                return parser.faultAtToken(WRONG, t + 2);
            }
            if (k >= MOST_ROOMS) {
                return parser.faultAtToken(ROOM_FAULT, t);
            }
            told.roomOrders[k] = orders;
            told.roomBits[k] = bits;
            told.rooms = k + 1;
            behind = t + 4;
            return NO_FAULT;
        }
    }

    /**
     * Chooses the SHORT ORDERS. An ORDER of b BITS that is SHORT, not LONG, takes 2^b times a fixed
     * share more, so all is a matter of packing weights that are powers of two, from the least one up.
     */
    private static final class Chooser {
        /** Of one weight, the worthiest first: ORDERS, and pairs of half the weight. */
        private final long[] pile = new long[MOST_ORDERS];
        private int piled;

        /** The SHORT ORDERS, each as the bit that bitOf tells; NONE if there is no way. */
        long choose(Told told, int unit) {
            long spare = spareIfAllLong(told, unit);
            long share = (1L << unit) - 1;
            if (spare < 0 || share <= 0) {
                return NONE;
            }
            long space = spare / share;
            long worth = 0;
            piled = 0;
            for (int b = 0; b <= unit; b++) {
                pileOrders(told, b, unit);
                boolean takesOne = (space >> b & 1) == 1 && piled > 0;
                if (takesOne) {
                    worth += pile[0];
                }
                pairUp(takesOne ? 1 : 0);
            }
            return worth & (1L << MOST_ORDERS) - 1;
        }

        static long bitOf(int k) {
            return 1L << (MOST_ORDERS - 1 - k);
        }

        /** USE counts first; below it the bits of ORDERS ahead weigh more than all those behind. */
        private static long worthOf(Told told, int k) {
            return ((long) told.uses[k] << MOST_ORDERS) + bitOf(k);
        }

        /** Of 2^(2 unit) as the whole; below 0 if there is no way. */
        private static long spareIfAllLong(Told told, int unit) {
            long spare = 1L << (2 * unit);
            for (int k = 0; k < told.orders; k++) {
                if (told.bits[k] >= 2 * unit) {
                    return NONE;
                }
                spare -= 1L << told.bits[k];
            }
            for (int r = 0; r < told.rooms; r++) {
                if (told.roomBits[r] >= 2 * unit) {
                    return NONE;
                }
                spare -= (long) told.roomOrders[r] << told.roomBits[r];
            }
            return spare;
        }

        private void pileOrders(Told told, int b, int unit) {
            for (int k = 0; k < told.orders && b < unit; k++) {
                if (told.bits[k] == b) {
                    pileOne(worthOf(told, k));
                }
            }
        }

        private void pileOne(long worth) {
            if (piled >= MOST_ORDERS) {
                return;
            }
            int at = piled;
            while (at > 0 && pile[at - 1] < worth) {
                pile[at] = pile[at - 1];
                at--;
            }
            pile[at] = worth;
            piled++;
        }

        private void pairUp(int from) {
            int pairs = 0;
            for (int i = from; i < piled; i += 2) {
                pile[pairs] = i + 1 < piled ? pile[i] + pile[i + 1] : pile[i];
                pairs++;
            }
            piled = pairs;
        }
    }

    /** Chooses the row of an ORDER's FIELDS, from sets of FIELDS that stand behind all others. */
    private static final class RowChooser {
        private final int[] bitsOf = new int[1 << MOST_MEMBERS];
        private final int[] fewestNew = new int[1 << MOST_MEMBERS];

        void choose(Told told, int k, Layout layout) {
            int size = Math.min(told.sizes[k], MOST_MEMBERS);
            int all = (1 << size) - 1;
            for (int set = 1; set <= all; set++) {
                weigh(told, k, set, layout);
            }
            int set = all;
            for (int n = 0; n < size; n++) {
                int i = firstToStand(told, k, set, layout);
                if (i == NONE) {
                    return;
                }
                set ^= 1 << i;
                layout.setPlace(told, k, i, bitsOf[set]);
            }
        }

        private void weigh(Told told, int k, int set, Layout layout) {
            int fewest = MOST_MEMBERS;
            for (int i = 0; i < told.sizes[k]; i++) {
                if ((set >> i & 1) == 1) {
                    int rest = set ^ 1 << i;
                    bitsOf[set] = bitsOf[rest] + told.widths[told.members[k * MOST_MEMBERS + i]];
                    fewest = Math.min(fewest, newIfFirst(told, k, i, rest, layout));
                }
            }
            fewestNew[set] = fewest;
        }

        private int newIfFirst(Told told, int k, int i, int rest, Layout layout) {
            int seen = layout.placesSeen[told.members[k * MOST_MEMBERS + i]];
            return fewestNew[rest] + (1 - (seen >> bitsOf[rest] & 1));
        }

        private int firstToStand(Told told, int k, int set, Layout layout) {
            for (int i = 0; i < told.sizes[k]; i++) {
                if ((set >> i & 1) == 1
                        && newIfFirst(told, k, i, set ^ 1 << i, layout) == fewestNew[set]) {
                    return i;
                }
            }
            return NONE;
        }
    }

    /** How all that is told is laid; with a unit of 0 nothing is. */
    private static final class Layout {
        int unit;
        int cost;
        final int[] units = new int[MOST_ORDERS];
        final int[] markBits = new int[MOST_ORDERS];
        final long[] marks = new long[MOST_ORDERS];
        final boolean[] came = new boolean[MOST_ORDERS];
        final int[] places = new int[MOST_ORDERS * MOST_MEMBERS];
        final int[] roomMarkBits = new int[MOST_ROOMS];
        final long[] roomMarks = new long[MOST_ROOMS];
        final int[] taken = new int[MOST_ROOMS];
        /** The PLACES of each FIELD as a set of bits. */
        final int[] placesSeen = new int[MOST_FIELDS];
        private final RowChooser rowChooser = new RowChooser();

        void layAll(Told told, long shorts, int newUnit) {
            unit = newUnit;
            cost = 0;
            for (int k = 0; k < told.orders; k++) {
                came[k] = false;
                setUnits(told, k, (shorts & Chooser.bitOf(k)) != 0 ? 1 : 2);
            }
            for (int r = 0; r < told.rooms; r++) {
                taken[r] = 0;
                roomMarkBits[r] = 2 * unit - told.roomBits[r];
            }
            setMarks(told);
            for (int f = 0; f < told.fields; f++) {
                placesSeen[f] = 0;
            }
            for (int k = 0; k < told.orders; k++) {
                rowChooser.choose(told, k, this);
            }
        }

        /** False, and nothing is laid, if no room has a MARK for ORDER k. */
        boolean layComing(Told told, int k) {
            int r = roomFor(told, told.bits[k]);
            if (r == NONE) {
                return false;
            }
            came[k] = true;
            setUnits(told, k, 2);
            marks[k] = roomMarks[r] + taken[r] << (told.roomBits[r] - told.bits[k]);
            taken[r]++;
            rowChooser.choose(told, k, this);
            return true;
        }

        void setPlace(Told told, int k, int i, int place) {
            places[k * MOST_MEMBERS + i] = place;
            placesSeen[told.members[k * MOST_MEMBERS + i]] |= 1 << place;
        }

        int shortOrders(Told told) {
            int found = 0;
            for (int k = 0; k < told.orders; k++) {
                if (units[k] == 1) {
                    found++;
                }
            }
            return found;
        }

        int freeMarks(Told told) {
            int free = 0;
            for (int r = 0; r < told.rooms; r++) {
                free += told.roomOrders[r] - taken[r];
            }
            return free;
        }

        /** The first bits of w's units, as many as ORDER k's WORD has; NONE if they have fewer. */
        long wordAhead(int k, long w, int unitsThere) {
            if (units[k] > unitsThere) {
                return NONE;
            }
            long there = w & (1L << unitsThere * unit) - 1;
            return there >> (unitsThere - units[k]) * unit;
        }

        private void setUnits(Told told, int k, int count) {
            units[k] = count;
            markBits[k] = count * unit - told.bits[k];
            cost += count * told.uses[k];
        }

        private void setMarks(Told told) {
            long next = 0;
            for (int m = 1; m <= 2 * unit; m++) {
                next <<= 1;
                for (int k = 0; k < told.orders; k++) {
                    if (markBits[k] == m) {
                        marks[k] = next;
                        next++;
                    }
                }
                for (int r = 0; r < told.rooms; r++) {
                    if (roomMarkBits[r] == m) {
                        roomMarks[r] = next;
                        next += told.roomOrders[r];
                    }
                }
            }
        }

        private int roomFor(Told told, int bits) {
            for (int r = 0; r < told.rooms; r++) {
                if (taken[r] < told.roomOrders[r] && told.roomBits[r] >= bits) {
                    return r;
                }
            }
            return NONE;
        }
    }

    /** The tree of TESTS; made only when it is asked for, as few calls need it. */
    private static final class Decoder {
        boolean stale;
        int asked;
        int deepest;
        int ends;
        final int[] testsAhead = new int[MOST_ORDERS];
        /** MARKS with their first bit highest, so that bit i of each stands at one place. */
        private final int[] heads = new int[MOST_MARKS];
        private final int[] lengths = new int[MOST_MARKS];
        /** The ORDER of each MARK; NONE for a room's. */
        private final int[] owners = new int[MOST_MARKS];
        private int size;
        /** A bit is asked once on a way, so no more parts are open at once than a MARK has bits, and one. */
        private final int[] openEnds = new int[MOST_MARK_BITS + 1];
        private final int[] openDepths = new int[MOST_MARK_BITS + 1];

        void refresh(Told told, Layout layout) {
            if (!stale) {
                return;
            }
            stale = false;
            asked = 0;
            deepest = 0;
            ends = 0;
            gather(told, layout);
            grow();
        }

        private void gather(Told told, Layout layout) {
            size = 0;
            for (int k = 0; k < told.orders; k++) {
                keepMark(layout.marks[k], layout.markBits[k], k);
            }
            for (int r = 0; r < told.rooms; r++) {
                for (int i = layout.taken[r]; i < told.roomOrders[r]; i++) {
                    keepMark(layout.roomMarks[r] + i, layout.roomMarkBits[r], NONE);
                }
            }
        }

        private void keepMark(long mark, int bits, int owner) {
            if (size < MOST_MARKS) {
                heads[size] = (int) (mark << (MOST_MARK_BITS - bits));
                lengths[size] = bits;
                owners[size] = owner;
                size++;
            }
        }

        /** Parts are taken from the first MARK on; of those that are open, the first stands uppermost. */
        private void grow() {
            int from = 0;
            int open = 0;
            if (size > 0) {
                openEnds[0] = size;
                openDepths[0] = 0;
                open = 1;
            }
            for (int n = 0; n < 2 * MOST_MARKS && open > 0; n++) {
                int to = openEnds[open - 1];
                int depth = openDepths[open - 1];
                int bit = isEnd(from, to) ? NONE : bitToAsk(from, to);
                if (bit == NONE || open >= openEnds.length) {
                    setEnd(owners[from], depth);
                    from = to;
                    open--;
                } else {
                    asked++;
                    openDepths[open - 1] = depth + 1;
                    openEnds[open] = part(from, to, bit);
                    openDepths[open] = depth + 1;
                    open++;
                }
            }
        }

        private void setEnd(int owner, int depth) {
            ends++;
            deepest = Math.max(deepest, depth);
            if (owner != NONE) {
                testsAhead[owner] = depth;
            }
        }

        private boolean isEnd(int from, int to) {
            if (to - from == 1) {
                return true;
            }
            for (int i = from; i < to; i++) {
                if (owners[i] != NONE) {
                    return false;
                }
            }
            return true;
        }

        private int bitToAsk(int from, int to) {
            int differing = differingBits(from, to);
            int best = NONE;
            int fewest = to - from;
            for (int bit = 0; bit < MOST_MARK_BITS; bit++) {
                if (bitOf(differing, bit) == 1) {
                    int ones = ones(from, to, bit);
                    int greater = Math.max(ones, to - from - ones);
                    if (greater < fewest) {
                        fewest = greater;
                        best = bit;
                    }
                }
            }
            return best;
        }

        /** Those that all MARKS have, and not all alike. */
        private int differingBits(int from, int to) {
            int shortest = MOST_MARK_BITS;
            int differing = 0;
            for (int i = from; i < to; i++) {
                shortest = Math.min(shortest, lengths[i]);
                differing |= heads[i] ^ heads[from];
            }
            return shortest >= MOST_MARK_BITS ? differing : differing & ~(-1 >>> shortest);
        }

        private int ones(int from, int to, int bit) {
            int found = 0;
            for (int i = from; i < to; i++) {
                found += bitOf(heads[i], bit);
            }
            return found;
        }

        private static int bitOf(int head, int bit) {
            return head >>> (MOST_MARK_BITS - 1 - bit) & 1;
        }

        /** Brings the MARKS with a 0 to the front: where those with a 1 begin. */
        private int part(int from, int to, int bit) {
            int middle = from;
            for (int i = from; i < to; i++) {
                if (bitOf(heads[i], bit) == 0) {
                    swap(middle, i);
                    middle++;
                }
            }
            return middle;
        }

        private void swap(int i, int j) {
            int head = heads[i];
            heads[i] = heads[j];
            heads[j] = head;
            int length = lengths[i];
            lengths[i] = lengths[j];
            lengths[j] = length;
            int owner = owners[i];
            owners[i] = owners[j];
            owners[j] = owner;
        }
    }

    /** What was read latest; an order of NONE: nothing since all was laid. */
    private static final class Reading {
        int order = NONE;
        int alias = NONE;
        int size;
        final int[] numbers = new int[MOST_MEMBERS];

        void keep(Told told, Layout layout, int k, long word) {
            order = k;
            size = told.sizes[k];
            for (int i = 0; i < size; i++) {
                int width = told.widths[told.members[k * MOST_MEMBERS + i]];
                numbers[i] = (int) (word >> layout.places[k * MOST_MEMBERS + i]) & (1 << width) - 1;
            }
            alias = firstAlias(told);
        }

        private int firstAlias(Told told) {
            for (int a = 0; a < told.aliases; a++) {
                if (told.aliasOrders[a] == order && fits(told, a)) {
                    return a;
                }
            }
            return NONE;
        }

        private boolean fits(Told told, int a) {
            for (int i = 0; i < told.heldCounts[a]; i++) {
                int member = told.memberOf(order, told.heldFields[a * MOST_MEMBERS + i]);
                if (member == NONE || numbers[member] != told.heldNumbers[a * MOST_MEMBERS + i]) {
                    return false;
                }
            }
            return true;
        }
    }
}
