import java.util.function.Consumer;

/** The document's promises: what each call answers at its bounds and where it refuses, and what then changes. */
public final class WordMintCallEdges {
    private static final int MIN = Integer.MIN_VALUE;
    private static final int MAX = Integer.MAX_VALUE;
    private static final int BLANK = 0x20202020;

    /** Two FIELDS, three ORDERS of which the last came, an ALIAS, two rooms; by 8. */
    private static final String TEXT = "field a 4;field b 3;order p 9:a,b;order q 2:b;alias z=p,b 5,a 9;room 2 6;room 1 0;";

    private static Desk ready() {
        Desk x = Desk.laid(TEXT, 8, 11);
        Due.same("add", 2, x.addText("order r 1:b;"));
        Due.same("give", true, x.give(0, 9));
        Due.same("give", true, x.give(1, 5));
        Due.same("reads", 0, x.reads(x.word(0), 1));
        return x;
    }

    /** The call is one that is refused: nothing is other behind it. */
    private static void changesNothing(String what, Consumer<Desk> call) {
        Desk x = ready();
        String state = x.state();
        int tape = x.count(8);
        call.accept(x);
        Due.same("all behind " + what, state, x.state());
        Due.same("the tape behind " + what, tape, x.count(8));
    }

    private static int blanks(Desk x) {
        return x.feed(BLANK, BLANK, BLANK, BLANK, BLANK);
    }

    private static String blanks(int n) {
        return " ".repeat(n);
    }

    private static void newObject() {
        Due.sentence("A new object: Nothing is told; nothing is laid.");
        Desk x = new Desk();
        Due.same("all of a new one", "count 0 0 0 0 0 0 0 0, tests -1 -1 -1, got -1 -1 -1"
            + ", order 0: -1 -1 -1 -1 -1 -1 -1 -1 -1 -1 -1 -1 word -1"
            + ", field 0: -1 -1 -1, alias 0: -1 -1 -1 -1, room 0: -1 -1 -1 -1 -1", x.state());
        Due.same("place", -1, x.place());
        Due.same("bytes on the tape", 0, x.count(8));
        Due.same("reads", -1, x.reads(0, 1));
        Due.same("reads", -1, x.reads(0, 2));
        Due.same("back", -1, x.back(1));
        Due.same("add", -3, x.add());
        Due.same("read of nothing", 0, x.read());
        Due.same("lay of nothing", 0, x.lay(8));
        Desk y = Desk.told("order p 1;");
        Due.same("another object has its own", 0, x.count(1));
        Due.same("and this", 1, y.count(1));
    }

    private static void feed() {
        Due.sentence("Twenty bytes, the highest of a first, come behind the tape: how many it has.");
        Desk x = new Desk();
        Due.same("feed", 20, x.feed(0x6669656c, 0x64206120, 0x333b6f72, 0x64657220, 0x6f20373b));
        Due.same("read of field a 3;order o 7;", 0, x.read());
        Due.same("WIDTH", 3, x.field(0, 0));
        Due.same("USE", 7, x.order(0, 0));
        for (int i = 0; i < 20; i++) {
            int[] five = {BLANK, BLANK, BLANK, BLANK, BLANK};
            five[i / 4] ^= (0x20 ^ ';') << (24 - 8 * (i % 4));
            Due.same("feed", 20, x.feed(five[0], five[1], five[2], five[3], five[4]));
            Due.same("read", 1, x.read());
            Due.same("place of byte " + i, i, x.place());
        }
        Due.same("feed of bytes above 127", 20, x.feed(0xa0a0a0a0, -1, -1, -1, -1));
        Due.same("read", 1, x.read());
        Due.same("place", 0, x.place());
        Due.sentence("NONE, and nothing comes, if it would have more than 3,000.");
        x = new Desk();
        for (int i = 1; i <= 149; i++) {
            Due.same("feed", 20 * i, blanks(x));
        }
        Due.same("to 3,000", 3000, x.feed(0x6669656c, 0x64206120, 0x333b6f72, 0x64657220, 0x6f20373b));
        Due.same("above", -1, x.feed(0x3b3b3b3b, 0, 0, 0, 0));
        Due.same("nothing came", 3000, x.count(8));
        Due.same("above again", -1, blanks(x));
        Due.same("the text is whole", 0, x.read());
        Due.same("FIELDS", 1, x.count(0));
        Due.same("USE", 7, x.order(0, 0));
        Due.same("the tape is empty", 20, blanks(x));
        for (int more : new int[] {1, 2, 10, 19}) {
            Desk y = new Desk();
            y.feedText(blanks(2980 + more));
            Due.same("above by " + more, -1, y.feed(0x3b3b3b3b, 0, 0, 0, 0));
            Due.same("nothing came", 2980 + more, y.count(8));
            Due.same("back", 2980, y.back(more));
            Due.same("to 3,000", 3000, blanks(y));
            Due.same("read", 0, y.read());
        }
    }

    private static void back() {
        Due.sentence("The last n bytes of the tape go: how many it has.");
        Desk x = new Desk();
        Due.same("of none", 0, x.back(0));
        x.feedText("field a 3;field b 4;%");
        Due.same("one", 20, x.back(1));
        Due.same("none", 20, x.back(0));
        Due.same("ten", 10, x.back(10));
        x.feedText("order o 7;");
        Due.same("read of what is left", 0, x.read());
        Due.same("FIELDS", 1, x.count(0));
        Due.same("ORDERS", 1, x.count(1));
        x.feedText("field a 3;");
        Due.same("all", 0, x.back(10));
        Due.same("nothing is left", 0, x.count(8));
        Due.sentence("NONE, and nothing goes, if it has not so many, or n is below 0.");
        Due.same("of none", -1, x.back(1));
        x.feedText("field a 3;");
        for (int n : new int[] {11, 12, 3001, MAX, -1, -10, MIN}) {
            Due.same("back(" + n + ")", -1, x.back(n));
            Due.same("nothing goes", 10, x.count(8));
        }
        Due.same("read", 0, x.read());
        Due.same("WIDTH", 3, x.field(0, 0));
        Desk y = new Desk();
        y.feedText(blanks(3000));
        Due.same("one more than all", -1, y.back(3001));
        Due.same("all of 3,000", 0, y.back(3000));
    }

    private static void read() {
        Due.sentence("The tape, which is empty then, is a text: 0, or the number of its FAULT.");
        String[] texts = {"", "  ", "order o 1;", "order o 1", "room 1 1;room 1 1;room 1 1;room 1 1;room 1 1;",
            "order o 1;order o 1;", "order o 1:a;", "order o 10001;"};
        int[] due = {0, 0, 0, 1, 2, 3, 4, 5};
        for (int i = 0; i < texts.length; i++) {
            Desk x = new Desk();
            Due.same("read of <" + texts[i] + ">", due[i], x.readText(texts[i]));
            Due.same("bytes on the tape", 0, x.count(8));
            Due.same("read of the empty tape", 0, x.read());
            Due.same("ORDERS", 0, x.count(1));
        }
    }

    private static void place() {
        Due.sentence("The byte of the FAULT of the latest read() or add() that was not -2, -3; NONE without.");
        Desk x = new Desk();
        Due.same("of a new one", -1, x.place());
        Due.same("add when nothing is laid", -3, x.addText("x"));
        Due.same("ahead of any read", -1, x.place());
        Due.same("read with a FAULT", 1, x.readText("room 1"));
        Due.same("of read", 6, x.place());
        Due.same("asked again", 6, x.place());
        Due.same("add when nothing is laid", -3, x.addText("order"));
        Due.same("not of -3", 6, x.place());
        Due.same("lay", 0, x.lay(16));
        Due.same("not of lay", 6, x.place());
        Due.same("lay of another u", -1, x.lay(1));
        Due.same("not of lay", 6, x.place());
        Due.same("add without a room", -2, x.addText("order p 1;"));
        Due.same("not of -2", 6, x.place());
        Due.same("add with a FAULT", -1, x.addText("order p 10001;"));
        Due.same("of add", 8, x.place());
        Due.same("add without a room", -2, x.addText("order p 1;"));
        Due.same("not of -2", 8, x.place());
        Due.same("read", 0, x.readText("room 1 1;"));
        Due.same("without a FAULT", -1, x.place());
        Due.same("add when nothing is laid", -3, x.addText(""));
        Due.same("not of -3", -1, x.place());
        Due.same("lay", 0, x.lay(16));
        Due.same("add with a FAULT", -1, x.addText(" "));
        Due.same("of add", 1, x.place());
        Due.same("add", 0, x.addText("order p 1;"));
        Due.same("without a FAULT", -1, x.place());
        Due.same("add without a room", -2, x.addText("order q 1;"));
        Due.same("not of -2", -1, x.place());
        Due.same("read with a FAULT at byte 0", 1, x.readText(";"));
        Due.same("of read", 0, x.place());
        Due.same("feed", 20, blanks(x));
        Due.same("back", 0, x.back(20));
        Due.same("not of feed and back", 0, x.place());
        Due.same("read with another", 5, x.readText("order o 10001;"));
        Due.same("the latest", 8, x.place());
    }

    private static void lay() {
        Due.sentence("All is LAID by UNITS of u bits (8 or 16): the COST.");
        Desk.laid(TEXT, 8, 11);
        Desk.laid(TEXT, 16, 11);
        Due.sentence("NONE, and nothing happens: another u");
        for (int u : new int[] {0, 1, 4, 7, 9, 12, 15, 17, 24, 32, -8, -16, -1, 264, 65544, MIN, MAX}) {
            changesNothing("lay(" + u + ")", x -> Due.same("lay(" + u + ")", -1, x.lay(u)));
            Due.same("lay(" + u + ") when nothing is laid", -1, Desk.told("order p 1;").lay(u));
        }
        Due.same("ahead of -2", -1, Desk.told("room 3 15;").lay(9));
        Due.sentence("-2: there is no way (what was laid stays).");
        Desk x = Desk.laid("field a 16;order p 3:a;room 1 3;", 16, 6);
        Due.same("add", 1, x.addText("order q 1;"));
        Due.same("reads", 0, x.reads(7, 2));
        String state = x.state();
        Due.same("lay", -2, x.lay(8));
        Due.same("all behind it", state, x.state());
        Due.same("got", 7, x.got(0));
        // one that came has no place among others and a free room
        Desk y = Desk.laid("field a 8;field b 7;room 2 15;", 8, 0);
        Due.same("add", 0, y.addText("order q 3:a,b;"));
        state = y.state();
        Due.same("lay", -2, y.lay(8));
        Due.same("all behind it", state, y.state());
        Due.same("it came", 1, y.order(0, 6));
        Due.same("COST", 6, y.count(6));
        Due.same("the other MARK is free", 1, y.addText("order r 1;"));
        Due.same("by 16", 4, y.lay(16));
    }

    private static void addRefuses() {
        Due.sentence("-3: nothing is laid (this ahead of any FAULT); then it is none.");
        for (String text : new String[] {"order q 1;", "", "x", "order p 1;", "order q 10001;"}) {
            Desk x = Desk.told("order p 1;room 1 1;");
            Due.same("add of <" + text + ">", -3, x.addText(text));
            Due.same("place", -1, x.place());
            Due.same("ORDERS", 1, x.count(1));
            Due.same("the tape is empty then", 0, x.count(8));
            Due.same("lay", 1, x.lay(8));
            Due.same("its NAME is free", 1, x.addText("order q 1;"));
        }
        Due.sentence("-2: no room has a MARK for it; then it is none");
        Desk x = Desk.laid("field a 4;field b 3;order p 1:a;room 1 3;", 8, 1);
        String state = x.state();
        Due.same("too many BITS", -2, x.addText("order q 5:b,a;"));
        Due.same("all behind it", state, x.state());
        Due.same("the tape is empty then", 0, x.count(8));
        Due.same("its NAME is free", 1, x.addText("order q 5:b;"));
        Due.same("PLACES of b", 1, x.field(1, 2));
        Due.same("the room is full", -2, x.addText("order r 5;"));
        Due.same("ORDERS", 2, x.count(1));
        Due.same("a FAULT ahead of -2", -1, x.addText("order q 5;"));
        Due.same("its place", 6, x.place());
        Due.same("a FAULT ahead of -2", -1, x.addText("order r 5"));
        Due.same("its place", 9, x.place());
    }

    private static void addFaults() {
        Due.sentence("is one ORDER (with its ;), FAULTS as in a text (its FIELDS and NAMES are those that are told; .. 1 at what is behind it)");
        String[] texts = {"^", "   ^", "^;", "^x", "^field c 1;", "^alias q=p;", "^room 1 1;", "^order1 s 1;", "order^", "order s^",
            "order s 1^", "order s 1:^", "order s 1:a^", "order ^1;", "order ^field 1;", "order s ^;", "order s ^100000;",
            "order ^abcdefghi 1;", "order s 1:^;", "order s 1:^1;", "order s 1:a,^;", "order s 1:a ^b;", "order s 1^=a;",
            "order s 1;^;", "order s 1;^x", "order s 1;^1", "order s 1; ^order t 1;", "order s 1;\n^field", "order s 1;^room 1 1;",
            "order s 1;^%", "order s 1;^.", "order s 1;^abcdefghi", "order s 1:a;^,", "order s 1:a,b,a,b,a,b,^a;",
            "order s 1:x,x,x,x,x,x,^x;", "order ^p 1;", "order ^r 1;", "order ^z 1;", "order ^p 1:x;", "order s ^10001;", "order s ^99999:x;",
            "order s 1:^x;", "order s 1:^p;", "order s 1:^s;", "order s 1:^z;", "order s 1:a,^a;", "order s 1:a,b,^c;", "order s 1:b,a,^b;"};
        for (String marked : texts) {
            String text = marked.replace("^", "");
            changesNothing("add of <" + text + ">", x -> {
                Due.same("add of <" + text + ">", -1, x.addText(text));
                Due.same("place in <" + text + ">", marked.indexOf('^'), x.place());
                Due.same("the tape is empty then", 0, x.count(8));
            });
        }
        Due.same("blanks are nothing", 3, ready().addText("\n order\ts 1 :\r\n b ; \n "));
        Due.same("USE 10000", 3, ready().addText("order s 10000;"));
        Due.same("a FIELD's NAME is free", 3, ready().addText("order a 0;"));
        Desk x = Desk.laid("field a 16;field b 8;field c 1;room 3 24;", 16, 0);
        Due.same("25 BITS", -1, x.addText("order s 10001:a,b,c;"));
        Due.same("at its NAME", 6, x.place());
        Due.same("24 BITS", 0, x.addText("order s 1:a,b;"));
        Due.same("25 BITS, and told already", -1, x.addText(" order s 1:a,b,c;"));
        Due.same("at its NAME", 7, x.place());
        Desk six = Desk.laid("field a 1;field b 1;field c 1;field d 1;field e 1;field f 1;field g 1;room 2 6;", 8, 0);
        Due.same("seven FIELDS", -1, six.addText("order s 1:a,b,c,d,e,f,g;"));
        Due.same("at the seventh", 22, six.place());
        Due.same("six FIELDS", 0, six.addText("order s 1:a,b,c,d,e,f;"));
        Due.same("its last", 5, six.order(0, 25));
        Due.same("its last PLACE", 0, six.order(0, 15));
    }

    private static Desk withOrders(int told, int inAll, int room) {
        StringBuilder text = new StringBuilder();
        for (int k = 0; k < told; k++) {
            text.append("order o").append(k).append(" 1;");
        }
        Desk x = Desk.laid(text + "room " + room + " 3;", 16, told);
        for (int k = told; k < inAll; k++) {
            Due.same("one that comes", k, x.addText("order o" + k + " 1;"));
        }
        return x;
    }

    private static void fortyOrders() {
        Due.sentence("2, too, at order, if 40 ORDERS are there");
        Desk x = withOrders(24, 39, 17);
        Due.same("a 40th", 39, x.addText("order o39 1;"));
        Due.same("a 41st", -1, x.addText(" \n order o40 1;"));
        Due.same("at order", 3, x.place());
        Due.same("ORDERS", 40, x.count(1));
        Due.same("free", 1, x.count(7));
        Due.same("a 41st with more FAULTS", -1, x.addText("order order"));
        Due.same("at order", 0, x.place());
        Due.same("a 41st that is told already", -1, x.addText(" order o1 10001;"));
        Due.same("at order", 1, x.place());
        Due.same("what is no ORDER", -1, x.addText("  room 1 1;"));
        Due.same("at it", 2, x.place());
        Due.same("nothing", -1, x.addText("  "));
        Due.same("at the end", 2, x.place());
        Due.same("laid again they are 40", 40, x.lay(8));
        Due.same("a 41st", -1, x.addText("  order o40 1;"));
        Due.same("at order", 2, x.place());
        Due.same("USE of the last", 1, x.order(39, 0));
        Due.same("no more", -1, x.order(40, 0));
        // the FAULT is ahead of a room that is full
        Desk full = withOrders(24, 40, 16);
        Due.same("no MARK is free", 0, full.count(7));
        Due.same("a 41st", -1, full.addText("order o40 1;"));
        Due.same("at order", 0, full.place());
        Desk none = withOrders(0, 40, 64);
        Due.same("a 41st", -1, none.addText("order o40 1;"));
        Due.same("at order", 0, none.place());
        Due.same("COST", 80, none.count(6));
        // a text has 24, whatever is there
        StringBuilder many = new StringBuilder();
        for (int k = 0; k < 25; k++) {
            many.append("order o").append(k).append(" 1;");
        }
        Due.same("a text with 25", 2, x.readText(many.toString()));
    }

    private static void order() {
        Due.sentence("Of an ORDER: .. NONE for others, or if nothing is laid.");
        int[] told = {9, 2, 7, -1, -1, -1, -1, -1, -1, -1, -1, -1, -1, -1, -1, -1, -1, -1, -1, -1, 0, 1, -1, -1, -1, -1, -1};
        Desk x = Desk.told(TEXT);
        for (int what = 0; what < told.length; what++) {
            Due.same("order(0, " + what + ")", told[what], x.order(0, what));
        }
        Due.same("lay", 11, x.lay(8));
        int[] laid = {9, 2, 7, 1, 1, 0, 0, 1, -1, -1, 3, 0, -1, -1, -1, -1, -1, -1, -1, -1, 0, 1, -1, -1, -1, -1, -1};
        for (int what = 0; what < laid.length; what++) {
            Due.same("order(0, " + what + ")", laid[what], x.order(0, what));
        }
        for (int what : new int[] {-1, -20, 99, 1000, MIN, MAX, MAX - 20}) {
            Due.same("order(0, " + what + ")", -1, x.order(0, what));
        }
        Due.same("the second FIELD of one with one", -1, x.order(1, 21));
        Due.same("its PLACE", -1, x.order(1, 11));
        for (int what = 0; what < 26; what++) {
            for (int k : new int[] {-1, 2, 40, MIN, MAX}) {
                Due.same("order(" + k + ", " + what + ")", -1, x.order(k, what));
            }
        }
        Due.same("add", 2, x.addText("order r 4;"));
        Due.same("USE of one that came", 4, x.order(2, 0));
        Due.same("one behind it", -1, x.order(3, 0));
        Desk none = Desk.laid("order p 0;", 16, 0);
        Due.same("USE 0", 0, none.order(0, 0));
        Due.same("no FIELDS", 0, none.order(0, 1));
        Due.same("no BITS", 0, none.order(0, 2));
        Due.same("no FIELD", -1, none.order(0, 20));
        Due.same("no PLACE", -1, none.order(0, 10));
        Desk six = Desk.laid("field a 1;field b 2;field c 3;field d 4;field e 5;field f 6;order p 1:f,e,d,c,b,a;", 16, 2);
        Due.same("the sixth FIELD", 0, six.order(0, 25));
        Due.same("its PLACE", 0, six.order(0, 15));
        Due.same("the first FIELD", 5, six.order(0, 20));
        Due.same("its PLACE", 15, six.order(0, 10));
        Due.same("no seventh", -1, six.order(0, 26));
        Due.same("nor its PLACE", -1, six.order(0, 16));
        lastOfForty();
        Due.same("read", 0, six.readText("field a 1;order p 1:a;"));
        for (int what : new int[] {3, 4, 5, 6, 7, 10}) {
            Due.same("nothing is laid: order(0, " + what + ")", -1, six.order(0, what));
        }
    }

    /** ORDERS of six FIELDS each, by turns in two rows; 24 that are told, 16 that come. */
    private static void lastOfForty() {
        String[] rows = {":a,b,c,d,e,f;", ":f,e,d,c,b,a;"};
        StringBuilder text = new StringBuilder("field a 1;field b 1;field c 1;field d 1;field e 1;field f 2;room 64 7;");
        for (int k = 0; k < 24; k++) {
            text.append("order o").append(k).append(" 1").append(rows[k % 2]);
        }
        Desk x = Desk.laid(text.toString(), 16, 24);
        for (int k = 24; k < 40; k++) {
            Due.same("one that comes", k, x.addText("order o" + k + " " + k + rows[k % 2]));
        }
        for (int i = 0; i < 6; i++) {
            Due.same("give", true, x.give(i, 1));
            for (int k : new int[] {0, 1, 22, 23, 24, 38, 39}) {
                int field = k % 2 == 0 ? i : 5 - i;
                Due.same("FIELD " + i + " of ORDER " + k, field, x.order(k, 20 + i));
                Due.same("its PLACE", field == 5 ? 0 : 6 - field, x.order(k, 10 + i));
            }
        }
        Due.same("USE of the last", 39, x.order(39, 0));
        Due.same("its BITS", 7, x.order(39, 2));
        Due.same("its WORD", ((long) x.order(39, 5) << 7) + 0x7d, x.word(39));
        Due.same("it is read", 39, x.reads(x.word(39), 2));
        Due.same("its first number", 1, x.got(0));
        Due.same("its last number", 1, x.got(5));
    }

    private static void field() {
        Due.sentence("Of a FIELD: .. NONE for others (2: if nothing is laid).");
        Desk x = Desk.told(TEXT + "field c 16;");
        Due.same("WIDTH", 4, x.field(0, 0));
        Due.same("ORDERS that have it", 1, x.field(0, 1));
        Due.same("PLACES when nothing is laid", -1, x.field(0, 2));
        Due.same("PLACES when nothing is laid", -1, x.field(2, 2));
        Due.same("lay", 11, x.lay(8));
        Due.same("PLACES", 1, x.field(0, 2));
        Due.same("WIDTH", 3, x.field(1, 0));
        Due.same("ORDERS that have it", 2, x.field(1, 1));
        Due.same("PLACES", 1, x.field(1, 2));
        Due.same("add", 2, x.addText("order r 4:b;"));
        Due.same("ORDERS that have it, and one that came", 3, x.field(1, 1));
        Due.same("WIDTH of one that no ORDER has", 16, x.field(2, 0));
        Due.same("its ORDERS", 0, x.field(2, 1));
        Due.same("its PLACES", 0, x.field(2, 2));
        for (int k : new int[] {-1, 3, 12, MIN, MAX}) {
            for (int what = 0; what <= 2; what++) {
                Due.same("field(" + k + ", " + what + ")", -1, x.field(k, what));
            }
        }
        for (int what : new int[] {-1, 3, 4, 10, 20, MIN, MAX}) {
            Due.same("field(0, " + what + ")", -1, x.field(0, what));
        }
        Desk twelve = Desk.laid("field a 1;field b 2;field c 3;field d 4;field e 5;field f 6;field g 7;field h 8;field i 9;field j 10;"
            + "field k 11;field l 12;order p 1:l;", 16, 1);
        Due.same("WIDTH of the last", 12, twelve.field(11, 0));
        Due.same("its PLACES", 1, twelve.field(11, 2));
        Due.same("none behind it", -1, twelve.field(12, 0));
    }

    private static void room() {
        Due.sentence("Of a room: .. NONE for others, or if nothing is laid.");
        Desk x = Desk.told(TEXT);
        for (int k = 0; k < 2; k++) {
            Due.same("its ORDERS", k == 0 ? 2 : 1, x.room(k, 0));
            Due.same("its bits", k == 0 ? 6 : 0, x.room(k, 1));
            for (int what = 2; what <= 4; what++) {
                Due.same("nothing is laid: room(" + k + ", " + what + ")", -1, x.room(k, what));
            }
        }
        Due.same("lay", 11, x.lay(8));
        Due.same("MARKS taken", 0, x.room(0, 2));
        Due.same("bits of a MARK", 10, x.room(0, 3));
        // p takes 0, q 10000; behind them 1000100000
        Due.same("its first MARK", 0x220, x.room(0, 4));
        Due.same("bits of a MARK", 16, x.room(1, 3));
        Due.same("its first MARK", 0x222 << 6, x.room(1, 4));
        Due.same("add", 2, x.addText("order r 1;"));
        Due.same("MARKS taken", 1, x.room(0, 2));
        Due.same("its first MARK is the same", 0x220, x.room(0, 4));
        Due.same("add", 3, x.addText("order s 1;"));
        Due.same("MARKS taken", 2, x.room(0, 2));
        Due.same("add", 4, x.addText("order t 1;"));
        Due.same("MARKS taken", 1, x.room(1, 2));
        Due.same("add", -2, x.addText("order u 1;"));
        Due.same("MARKS taken", 1, x.room(1, 2));
        for (int k : new int[] {-1, 2, 4, MIN, MAX}) {
            for (int what = 0; what <= 4; what++) {
                Due.same("room(" + k + ", " + what + ")", -1, x.room(k, what));
            }
        }
        for (int what : new int[] {-1, 5, 6, 10, 20, MIN, MAX}) {
            Due.same("room(0, " + what + ")", -1, x.room(0, what));
        }
        Desk four = Desk.told("room 1 1;room 2 2;room 3 3;room 4 24;");
        Due.same("the last", 24, four.room(3, 1));
        Due.same("none behind it", -1, four.room(4, 1));
    }

    private static void alias() {
        Due.sentence("Of an ALIAS: .. of its i-th FIELD (in its own row) .. NONE for others.");
        Desk x = Desk.told(TEXT + "alias y=q;");
        int[] told = {0, 2, -1, -1, -1, -1, -1, -1, -1, -1, 1, 0, -1, -1, -1, -1, -1, -1, -1, -1, 5, 9, -1, -1, -1, -1, -1};
        for (int what = 0; what < told.length; what++) {
            Due.same("alias(0, " + what + ")", told[what], x.alias(0, what));
        }
        Due.same("its ORDER", 1, x.alias(1, 0));
        Due.same("it holds none", 0, x.alias(1, 1));
        Due.same("no FIELD", -1, x.alias(1, 10));
        Due.same("no number", -1, x.alias(1, 20));
        for (int k : new int[] {-1, 2, 16, MIN, MAX}) {
            for (int what : new int[] {0, 1, 10, 20}) {
                Due.same("alias(" + k + ", " + what + ")", -1, x.alias(k, what));
            }
        }
        for (int what : new int[] {-1, -10, 30, MIN, MAX}) {
            Due.same("alias(0, " + what + ")", -1, x.alias(0, what));
        }
        Due.same("lay", 11, x.lay(8));
        for (int what = 0; what < told.length; what++) {
            Due.same("alias(0, " + what + ") when all is laid", told[what], x.alias(0, what));
        }
        Desk six = Desk.told("field a 1;field b 2;field c 3;field d 4;field e 5;field f 6;order p 1:f,e,d,c,b,a;"
            + "alias o=p,a 1,b 3,c 7,d 15,e 31,f 63;");
        Due.same("the sixth FIELD", 5, six.alias(0, 15));
        Due.same("its number", 63, six.alias(0, 25));
        Due.same("no seventh", -1, six.alias(0, 16));
        Due.same("nor its number", -1, six.alias(0, 26));
        StringBuilder many = new StringBuilder("order p 1;order q 1;");
        for (int k = 0; k < 16; k++) {
            many.append("alias a").append(k).append(k == 15 ? "=q;" : "=p;");
        }
        Desk sixteen = Desk.told(many.toString());
        Due.same("the last", 1, sixteen.alias(15, 0));
        Due.same("none behind it", -1, sixteen.alias(16, 0));
    }

    private static void give() {
        Due.sentence("The number for the i-th FIELD (0 .. 5) of an ORDER becomes v (0 .. 65535; 0 at first): true; false for others.");
        Desk x = new Desk();
        for (int i = 0; i <= 5; i++) {
            Due.same("give(" + i + ", 65535)", true, x.give(i, 65535));
            Due.same("give(" + i + ", 65536)", false, x.give(i, 65536));
            Due.same("give(" + i + ", 0)", true, x.give(i, 0));
            Due.same("give(" + i + ", -1)", false, x.give(i, -1));
        }
        for (int i : new int[] {-1, 6, 7, 12, MIN, MAX}) {
            Due.same("give(" + i + ", 0)", false, x.give(i, 0));
            Due.same("give(" + i + ", 65536)", false, x.give(i, 65536));
        }
        Due.same("give(0, MIN)", false, x.give(0, MIN));
        Due.same("give(0, MAX)", false, x.give(0, MAX));
        Desk six = Desk.laid("field a 1;field b 2;field c 3;field d 4;field e 5;field f 6;order p 1:a,b,c,d,e,f;", 16, 2);
        Due.same("0 at first", 0, six.word(0));
        int[] places = {20, 18, 15, 11, 6, 0};
        long due = 0;
        for (int i = 0; i < 6; i++) {
            int v = (1 << i + 1) - 1;
            Due.same("give(" + i + ", " + v + ")", true, six.give(i, v));
            due |= (long) v << places[i];
            Due.same("word(0)", due, six.word(0));
        }
        Due.same("false, and the number stays", false, six.give(5, 65536));
        Due.same("false, and the number stays", false, six.give(0, -1));
        Due.same("false, and the numbers stay", false, six.give(6, 0));
        Due.same("false, and the numbers stay", false, six.give(-1, 0));
        Due.same("word(0)", due, six.word(0));
        Due.same("the greatest", true, x.give(0, 65535));
        Due.same("read", 0, x.readText("field a 16;order p 1:a;"));
        Due.same("lay", 2, x.lay(16));
        Due.same("it stands", 65535, x.word(0));
        Due.same("lay", 2, x.lay(16));
        Due.same("it stands", 65535, x.word(0));
    }

    private static void word() {
        Due.sentence("NONE: no such ORDER, nothing is laid, or a number that a FIELD's WIDTH does not hold.");
        for (int width = 1; width <= 16; width++) {
            Desk x = Desk.laid("field a " + width + ";order p 1:a;order q 1;", 16, width == 16 ? 3 : 2);
            int above = 1 << width;
            Due.same("give", true, x.give(0, above - 1));
            Due.same("the greatest that WIDTH " + width + " holds", ((long) x.order(0, 5) << width) + above - 1, x.word(0));
            if (width < 16) {
                Due.same("give", true, x.give(0, above));
                Due.same("the first that WIDTH " + width + " does not hold", -1, x.word(0));
                Due.same("the greatest of all", true, x.give(0, 65535));
                Due.same("WIDTH " + width, -1, x.word(0));
            }
            Due.same("an ORDER without FIELDS", x.order(1, 5), x.word(1));
        }
        Desk x = Desk.laid("field a 1;field b 2;order p 1:a,b;order q 1:b;", 8, 2);
        Due.same("give", true, x.give(1, 4));
        Due.same("its second FIELD does not hold it", -1, x.word(0));
        Due.same("an ORDER with one FIELD does not ask for it", x.order(1, 5) << 2, x.word(1));
        Due.same("give", true, x.give(1, 3));
        Due.same("it holds this", 3, x.word(0));
        Due.same("give", true, x.give(0, 3));
        Due.same("its first FIELD does not hold it", -1, x.word(0));
        Due.same("q's FIELD does", (x.order(1, 5) << 2) + 3, x.word(1));
        for (int k : new int[] {-1, 2, 40, MIN, MAX}) {
            Due.same("word(" + k + ")", -1, x.word(k));
        }
        Due.same("nothing is laid", -1, Desk.told("order p 1;").word(0));
        Due.same("read", 0, x.readText("order p 1;"));
        Due.same("nothing is laid", -1, x.word(0));
        // its bits as a number: a WORD of 32 bits that begins with 1 is above 0
        Desk y = Desk.laid("room 64 24;room 64 24;field a 16;field b 7;order p 1:a,b;", 16, 2);
        Due.same("a WORD of 32 bits", 0x80000000L, y.word(0));
        Due.same("give", true, y.give(0, 65535));
        Due.same("give", true, y.give(1, 127));
        Due.same("a WORD of 32 bits", 0x807fffffL, y.word(0));
    }

    private static void reads() {
        Due.sentence("READING one UNIT or two (units), the lowest bits of w: the ORDER; NONE: none, nothing is laid, or units are not 1, 2.");
        Desk x = ready();
        long p = 9 << 3 | 5;
        for (int units : new int[] {0, 3, 4, -1, -2, 8, MIN, MAX}) {
            Due.same("reads of " + units + " units", -1, x.reads(p, units));
        }
        Due.same("one", 0, x.reads(p, 1));
        Due.same("two", 0, x.reads(p << 8, 2));
        for (int bit = 8; bit < 64; bit++) {
            Due.same("one, and bit " + bit, 0, x.reads(p | 1L << bit, 1));
        }
        for (int bit = 16; bit < 64; bit++) {
            Due.same("two, and bit " + bit, 0, x.reads(p << 8 | 1L << bit, 2));
        }
        Due.same("its first number", 9, x.got(0));
        Due.same("-1 has no MARK", -1, x.reads(-1, 1));
        Due.same("nor by two", -1, x.reads(-1, 2));
        Desk y = Desk.laid("field a 16;order p 1:a;", 16, 2);
        for (int bit = 32; bit < 64; bit++) {
            Due.same("two of 16, and bit " + bit, 0, y.reads(0xabcdL | 1L << bit, 2));
        }
        Due.same("its number", 0xabcd, y.got(0));
        Due.same("the last bit of its MARK", -1, y.reads(0x10000, 2));
        Due.same("the first bit of its MARK", -1, y.reads(0x80000000L, 2));
        Due.same("nothing is laid", -1, Desk.told("order p 1;").reads(0, 1));
        Due.same("read", 0, y.readText("order p 1;"));
        Due.same("nothing is laid", -1, y.reads(0, 1));
        Due.same("nothing is laid", -1, y.reads(0, 2));
        Desk all = Desk.laid("field a 8;field b 7;order p 1:a,b;order q 1:a,b;", 8, 4);
        Due.same("all ones", 1, all.reads(-1, 2));
        Due.same("the greatest number", 255, all.got(0));
        Due.same("the greatest number", 127, all.got(1));
    }

    private static void got() {
        Due.sentence("Of what reads() told latest (that was not NONE): the number of its i-th FIELD; i NONE: its ALIAS (NONE: none). NONE for others");
        Desk x = ready();
        Due.same("its ALIAS", 0, x.got(-1));
        Due.same("its first", 9, x.got(0));
        Due.same("its second", 5, x.got(1));
        for (int i : new int[] {2, 5, 6, -2, MIN, MAX}) {
            Due.same("got(" + i + ")", -1, x.got(i));
        }
        Due.same("reads of none", -1, x.reads(-1, 1));
        Due.same("reads of no units", -1, x.reads(0, 0));
        Due.same("reads of three units", -1, x.reads(0, 3));
        Due.same("its first stays", 9, x.got(0));
        Due.same("its ALIAS stays", 0, x.got(-1));
        Due.same("reads of another", 1, x.reads((long) x.order(1, 5) << 3 | 6, 1));
        Due.same("its first", 6, x.got(0));
        Due.same("it has one", -1, x.got(1));
        Due.same("it has no ALIAS", -1, x.got(-1));
        Due.same("add", 3, x.addText("order s 1:a;"));
        Due.same("stays when one comes", 6, x.got(0));
        Due.same("a FAULT", 1, x.readText("x"));
        Due.same("stays with a FAULT", 6, x.got(0));
        Due.same("lay of another u", -1, x.lay(9));
        Due.same("stays", 6, x.got(0));
        Due.same("give", true, x.give(0, 1));
        Due.same("stays", 6, x.got(0));
        Due.sentence("or ahead of any since all was laid");
        Due.same("laid again", 13, x.lay(8));
        Due.same("none since", -1, x.got(0));
        Due.same("none since", -1, x.got(-1));
        Due.same("reads of none", -1, x.reads(-1, 1));
        Due.same("none since", -1, x.got(0));
        Due.same("reads", 0, x.reads(9 << 3 | 5, 1));
        Due.same("one since", 9, x.got(0));
        Due.same("a new text", 0, x.readText(TEXT));
        Due.same("none since", -1, x.got(0));
        Due.same("none since", -1, x.got(-1));
        Due.same("lay", 11, x.lay(8));
        Due.same("none since", -1, x.got(0));
        Due.same("none since", -1, x.got(-1));
        Desk six = Desk.laid("field a 1;field b 2;field c 3;field d 4;field e 5;field f 6;order p 1:a,b,c,d,e,f;", 16, 2);
        Due.same("reads", 0, six.reads(0x1fffff, 2));
        Due.same("the sixth", 63, six.got(5));
        Due.same("no seventh", -1, six.got(6));
    }

    private static void tests() {
        Due.sentence("Of the DECODER: .. NONE for others, or if nothing is laid.");
        Desk x = Desk.told(TEXT);
        for (int what = 0; what <= 2; what++) {
            Due.same("nothing is laid: tests(" + what + ")", -1, x.tests(what));
        }
        Due.same("lay", 11, x.lay(8));
        // 0, 10000, 1000100000, 1000100001, 1000100010000000: bit 0, then bit 4
        Due.same("TESTS", 2, x.tests(0));
        Due.same("the most to an end", 2, x.tests(1));
        Due.same("ends", 3, x.tests(2));
        for (int what : new int[] {-1, 3, 4, 10, MIN, MAX}) {
            Due.same("tests(" + what + ")", -1, x.tests(what));
        }
        Due.same("add", 2, x.addText("order r 1:a;"));
        // r's is 100010000000: behind the same two bits r and a room's two
        Due.same("TESTS", 4, x.tests(0));
        Due.same("the most to an end", 4, x.tests(1));
        Due.same("ends", 5, x.tests(2));
        Due.same("a new text", 0, x.readText("order p 1;"));
        Due.same("nothing is laid", -1, x.tests(0));
        Due.same("lay", 1, x.lay(8));
        Due.same("TESTS", 0, x.tests(0));
        Due.same("ends", 1, x.tests(2));
    }

    private static void count() {
        Due.sentence("0 without what they tell of; NONE for others.");
        Desk x = Desk.told(TEXT);
        int[] told = {2, 2, 1, 2, 0, 0, 0, 0, 0};
        int[] laid = {2, 2, 1, 2, 8, 2, 11, 3, 0};
        int[] more = {2, 3, 1, 2, 8, 2, 31, 2, 7};
        int[] gone = {0, 0, 0, 0, 0, 0, 0, 0, 0};
        counts(x, told);
        Due.same("lay", 11, x.lay(8));
        counts(x, laid);
        Due.same("add", 2, x.addText("order r 10;"));
        x.feedText("seven b");
        counts(x, more);
        Due.same("a FAULT", 1, x.read());
        more[8] = 0;
        counts(x, more);
        Due.same("laid by 16", 21, x.lay(16));
        int[] again = {2, 3, 1, 2, 16, 3, 21, 3, 0};
        counts(x, again);
        Due.same("an empty text", 0, x.read());
        counts(x, gone);
        Desk full = new Desk();
        full.feedText(blanks(3000));
        Due.same("bytes of a full tape", 3000, full.count(8));
        Desk greatest = withOrders(24, 40, 64);
        Due.same("ORDERS", 40, greatest.count(1));
        Due.same("free", 48, greatest.count(7));
        Desk dear = Desk.laid("field a 8;order p 10000:a;order q 10000:a;room 64 0;room 64 0;room 64 0;room 64 0;", 8, 40000);
        Due.same("COST", 40000, dear.count(6));
        Due.same("SHORT ORDERS", 0, dear.count(5));
        Due.same("free", 256, dear.count(7));
    }

    private static void counts(Desk x, int[] due) {
        for (int what = 0; what < due.length; what++) {
            Due.same("count(" + what + ")", due[what], x.count(what));
        }
        for (int what : new int[] {-1, 9, 10, MIN, MAX}) {
            Due.same("count(" + what + ")", -1, x.count(what));
        }
    }

    public static void main(String[] args) {
        newObject();
        feed();
        back();
        read();
        place();
        lay();
        addRefuses();
        addFaults();
        fortyOrders();
        order();
        field();
        room();
        alias();
        give();
        word();
        reads();
        got();
        tests();
        count();
        Due.end("all calls are as due at their bounds");
    }
}
