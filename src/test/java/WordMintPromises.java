import java.lang.reflect.Constructor;
import java.lang.reflect.Field;
import java.lang.reflect.Method;
import java.lang.reflect.Modifier;
import java.util.Set;
import java.util.TreeSet;
import java.util.function.Supplier;

/** The promises one by one: ordinary inputs, the edges that the document names, wrong inputs. */
public final class WordMintPromises {
    /** The text's FAULT, at the byte where the mark ^ stands (which is no part of it). */
    private static void fault(int number, String marked) {
        int at = marked.indexOf('^');
        String text = marked.replace("^", "");
        Desk x = Desk.told("field keep 3; order stay 7: keep;");
        Due.same("read of <" + text + ">", number, x.readText(text));
        Due.same("place in <" + text + ">", at, x.place());
        Due.same("tape behind <" + text + ">", 0, x.count(8));
        Due.same("a FIELD stays", 1, x.count(0));
        Due.same("USE stays", 7, x.order(0, 0));
    }

    private static void good(String text) {
        Desk.told(text);
    }

    private static String repeat(String part, int from, int to) {
        StringBuilder all = new StringBuilder();
        for (int i = from; i < to; i++) {
            all.append(part.replace("#", Integer.toString(i)));
        }
        return all.toString();
    }

    private static void face() {
        Set<String> names = new TreeSet<>();
        for (Method m : WordMint.class.getDeclaredMethods()) {
            if (!Modifier.isPrivate(m.getModifiers())) {
                names.add(m.getName() + m.getParameterCount());
            }
        }
        Due.same("methods are the face's", true, names.equals(new TreeSet<>(Set.of("feed5", "back1", "read0", "place0",
            "lay1", "add0", "order2", "field2", "room2", "alias2", "give2", "word1", "reads2", "got1", "tests1", "count1"))));
        int seen = 0;
        for (Field f : WordMint.class.getDeclaredFields()) {
            seen += Modifier.isPrivate(f.getModifiers()) ? 0 : 1;
        }
        Due.same("constants", 1, seen);
        Constructor<?>[] makers = WordMint.class.getDeclaredConstructors();
        Due.same("constructors", 1, makers.length);
        Due.same("NONE", -1, WordMint.NONE);
    }

    private static void newObject() {
        Desk x = new Desk();
        for (int what = 0; what <= 8; what++) {
            Due.same("count(" + what + ") of a new one", 0, x.count(what));
        }
        Due.same("place of a new one", -1, x.place());
        Due.same("order of a new one", -1, x.order(0, 0));
        Due.same("field of a new one", -1, x.field(0, 0));
        Due.same("room of a new one", -1, x.room(0, 0));
        Due.same("alias of a new one", -1, x.alias(0, 0));
        Due.same("word of a new one", -1, x.word(0));
        Due.same("reads of a new one", -1, x.reads(0, 1));
        Due.same("got of a new one", -1, x.got(0));
        Due.same("got of a new one", -1, x.got(-1));
        Due.same("tests of a new one", -1, x.tests(0));
        Due.same("add to a new one", -3, x.add());
        Due.same("lay of nothing", 0, x.lay(8));
        Due.same("unit", 8, x.count(4));
    }

    private static void tape() {
        Desk x = new Desk();
        Due.same("back of nothing", 0, x.back(0));
        Due.same("back too far", -1, x.back(1));
        for (int i = 1; i <= 149; i++) {
            Due.same("feed", 20 * i, x.feed(0x20202020, 0x20202020, 0x20202020, 0x20202020, 0x20202020));
        }
        Due.same("back 1", 2979, x.back(1));
        Due.same("feed to 2999", 2999, x.feed(0x20202020, 0x20202020, 0x20202020, 0x20202020, 0x20202020));
        Due.same("feed above 3000", -1, x.feed(0, 0, 0, 0, 0));
        Due.same("nothing came", 2999, x.count(8));
        Due.same("back 19", 2980, x.back(19));
        Due.same("feed to 3000", 3000, x.feed(0x20202020, 0x20202020, 0x20202020, 0x20202020, 0x20206162));
        Due.same("feed to a full one", -1, x.feed(0, 0, 0, 0, 0));
        Due.same("back below 0", -1, x.back(-1));
        Due.same("back least", -1, x.back(Integer.MIN_VALUE));
        Due.same("back too far", -1, x.back(3001));
        Due.same("count", 3000, x.count(8));
        Due.same("read of a full tape", 1, x.read());
        Due.same("place in it", 2998, x.place());
        Due.same("tape is empty", 0, x.count(8));
        Due.same("feed", 20, x.feed(0x6669656c, 0x6420780a, 0x09310d3b, 0x80ff0041, 0x5a7b602f));
        Due.same("read", 1, x.read());
        Due.same("no blank: 128", 12, x.place());
        x.feedText("field b 4; order bb 1: b;");
        Due.same("back whole", 0, x.back(25));
        Due.same("read of nothing", 0, x.read());
        Due.same("nothing is told", 0, x.count(0));
        x.feedText("field ");
        x.feedText("c 5;");
        Due.same("read of two parts", 0, x.read());
        Due.same("width", 5, x.field(0, 0));
        StringBuilder full = new StringBuilder("field c 5;");
        while (full.length() < 3000) {
            full.append("\n");
        }
        Due.same("read of 3000 bytes", 0, x.readText(full.toString()));
        Due.same("read of 3000 bytes with an open end", 1, x.readText(full.substring(0, 2996) + "room"));
        Due.same("place at the text's end", 3000, x.place());
    }

    private static void syntaxFaults() {
        good("");
        good(" \t\r\n");
        good("field a 1;order b 2;alias c=b;room 1 0;");
        good("field\ta\r1\n;order b 2:a;alias c=b,a 1;room 64 24;");
        good("field a1 00016;order z9z9z9z9 10000;room 1 00024;");
        good("field field1 1;order orders 1:field1;alias aliased=orders,field1 1;");
        good("order a 1;room 5 5;alias b=a;field a 1;");
        good("room 1 2;room 12 3;");
        good("order a 12;");
        good("field x 3;order a 1:x;alias b=a,x 1;alias c=a,x 7;");
        good("field x 1;order o 5:x;alias p=o,x 1;field y 2;order q 6:y,x;");
        fault(1, "^x");
        fault(1, "^;");
        fault(1, "^5");
        fault(1, "field^");
        fault(1, "field   ^");
        fault(1, "field a^");
        fault(1, "field a 1^");
        fault(1, "field a 1 \n^");
        fault(1, "field a ^;");
        fault(1, "field a 1 ^1;");
        fault(1, "field a 1^:");
        fault(1, "field ^1 a;");
        fault(1, "field a ^b;");
        fault(1, "field ^field 1;");
        fault(1, "field ^room 1;");
        fault(1, "field a 1;^;");
        fault(1, "field a 1;^.");
        fault(1, "^Field a 1;");
        fault(1, "field ^A 1;");
        fault(1, "field a^B 1;");
        fault(1, "field ^abcdefghi 1;");
        fault(1, "field ^a23456789 1;");
        fault(1, "field a ^000001;");
        fault(1, "field a 1^\u00e4;");
        fault(1, "field a 1^\u0000;");
        fault(1, "^fielda 1;");
        fault(1, "field a1^;");
        fault(1, "order ^5;");
        fault(1, "order a ^:");
        fault(1, "order a 1:^;");
        fault(1, "order a 1^,b;");
        fault(1, "order a 1:b^:c;");
        fault(1, "order a 1:b,^;");
        fault(1, "order a 1:b,^,");
        fault(1, "order a 1:b^");
        fault(1, "order a 1:b ^4;");
        fault(1, "order a 1:^order;");
        fault(1, "order a 1^=b;");
        fault(1, "alias a^;");
        fault(1, "alias a=^;");
        fault(1, "alias a=^1;");
        fault(1, "alias a=b^:c 1;");
        fault(1, "alias a=b,c^;");
        fault(1, "alias a=b,^1;");
        fault(1, "alias a=b,c 1 ^d 2;");
        fault(1, "alias a=b,c 1,^;");
        fault(1, "alias a=b^");
        fault(1, "alias ^= b;");
        fault(1, "room^");
        fault(1, "room ^;");
        fault(1, "room 1^;");
        fault(1, "room 1^,2;");
        fault(1, "room 1 2 ^3;");
        fault(1, "room 1 2^");
        fault(1, "room ^a 2;");
        // a SYNTAX FAULT stands ahead of all that the meaning has, wherever they are
        fault(1, "field a 0;field a 17;order o 1:zz;^,");
    }

    private static void roomFaults() {
        good(repeat("field f# 1;", 0, 12));
        fault(2, repeat("field f# 1;", 0, 12) + "^field g 1;");
        fault(2, repeat("field f# 1;", 0, 12) + "^field ;");
        good(repeat("order o# 1;", 0, 24));
        fault(2, repeat("order o# 1;", 0, 24) + " ^order g 1;");
        good("order o 1;" + repeat("alias a#=o;", 0, 16));
        fault(2, "order o 1;" + repeat("alias a#=o;", 0, 16) + "^alias b=o;");
        good(repeat("room 1 #;", 0, 4));
        fault(2, repeat("room 1 #;", 0, 4) + "^room 1 1;");
        String six = repeat("field f# 1;", 0, 7);
        good(six + "order o 1:f0,f1,f2,f3,f4,f5;");
        fault(2, six + "order o 1:f0,f1,f2,f3,f4,f5,^f6;");
        fault(2, six + "order o 1:f0,f1,f2,f3,f4,f5, ^f0;");
        fault(1, six + "order o 1:f0,f1,f2,f3,f4,f5,^;");
        fault(1, six + "order o 1:f0,f1,f2,f3,f4,f5,^room;");
        good(six + "order o 1:f0,f1,f2,f3,f4,f5;order p 1:f6,f5;");
        good(six + "order o 1:f0,f1,f2,f3,f4,f5;alias a=o,f0 1,f1 1,f2 1,f3 1,f4 1,f5 1;alias b=o,f5 1;");
        fault(2, six + "order o 1:f0,f1,f2,f3,f4,f5;alias a=o,f0 1,f1 1,f2 1,f3 1,f4 1,f5 1,^f6 1;");
        fault(1, six + "order o 1:f0,f1,f2,f3,f4,f5;alias a=o,f0 1,f1 1,f2 1,f3 1,f4 1,f5 1,^6;");
        // ahead of the meaning's FAULTS, and the first by place of SYNTAX and ROOM
        fault(2, "field a 0;" + repeat("room 0 #;", 0, 4) + "^room 1 1;,");
        fault(1, "^,field a 0;" + repeat("room 0 #;", 0, 5));
        manyTokens();
    }

    private static void manyTokens() {
        // 7 fields: 28 tokens; 24 orders of six FIELDS: 384; 8 aliases of six: 184; 1 room: 4: 600 in all
        String fields = repeat("field f# 1;", 0, 7);
        String orders = repeat("order o# 1:f0,f1,f2,f3,f4,f5;", 0, 24);
        String aliases = repeat("alias a#=o#,f0 1,f1 0,f2 1,f3 0,f4 1,f5 0;", 0, 8);
        String full = fields + orders + aliases + "room 1 1;";
        good(full + "   ");
        fault(2, full + " ^field g 1;");
        fault(2, full + "^alias");
        fault(1, full + "^g");
        fault(1, full + "^;");
        fault(1, full + "^%");
        fault(1, full + "^abcdefghi");
        fault(2, fields + orders + aliases + "alias b=o1^;");
        fault(2, fields + orders + aliases + "alias b=o1^,f0 1;");
        fault(1, fields + orders + aliases + "alias b=o1 ^f0 1;");
        fault(1, fields + orders + aliases + "alias b=o1^");
    }

    private static void meaningFaults() {
        fault(3, "field a 1;field ^a 0;");
        fault(3, "order a 1;order ^a 10001;");
        fault(3, "order a 1;alias ^a=b;");
        fault(3, "order a 1;alias b=a;alias ^b=a;");
        fault(3, "order a 1;alias b=a;order ^b 1;");
        fault(3, "field x 2;order a 1:x,^x;");
        fault(3, "field x 2;field y 2;order a 1:x,y,^x,z;");
        fault(3, "field x 2;order a 1:x;alias b=a,x 1,^x 9;");
        good("field a 1;order a 1:a;alias b=a,a 1;field b 2;");
        // NAMES that are near one another are not one
        good("field a 1;field aa 1;field az 1;field a0 1;field a9 1;field b 1;field ab 1;field ba 1;field b0 1;");
        good("order abcdefgh 1;order abcdefg0 1;order bbcdefgh 1;order abcdefg 1;alias z9999999=abcdefg;");
        fault(3, "order abcdefg9 1;order abcdefg8 1;order ^abcdefg9 1;");
        fault(4, "order a 1:^x;");
        fault(4, "order a 1:^x,x;");
        fault(4, "order a 1:^x;field x 1;");
        fault(4, "order x 1;order a 1:^x;");
        fault(4, "alias a=^b;");
        fault(4, "alias a=^a;");
        fault(4, "alias a=^b;order b 1;");
        fault(4, "order a 1;alias b=a;alias c=^b;");
        fault(4, "field b 1;alias a=^b;");
        fault(4, "alias a=^b,zz 99999;");
        fault(4, "field x 1;field y 1;order a 1:x;alias b=a,^y 1;");
        fault(4, "field x 1;order a 1:x;alias b=a,^z 1;");
        fault(4, "field x 1;order a 1:x;alias b=a,x 0,^z 9;");
        good("field a 1;field b 16;");
        fault(5, "field a ^0;");
        fault(5, "field a ^17;");
        fault(5, "field a ^99999;");
        good("order a 10000;order b 0;");
        fault(5, "order a ^10001;");
        fault(5, "order a ^10001:x;");
        good("room 1 24;room 64 0;");
        fault(5, "room ^0 1;");
        fault(5, "room ^65 25;");
        fault(5, "room 64 ^25;");
        good("field a 1;field b 16;order o 1:a,b;alias p=o,a 1,b 65535;");
        fault(5, "field a 1;order o 1:a;alias p=o,a ^2;");
        fault(5, "field a 15;order o 1:a;alias p=o,a ^32768,z 1;");
        fault(5, "field a 16;order o 1:a;alias p=o,a ^65536;");
        String wide = "field a 16;field b 8;field c 1;";
        good(wide + "order o 1:a,b;");
        fault(5, wide + "order ^o 1:a,b,c;");
        fault(5, wide + "order ^o 10001:c,b,a,zz;");
        fault(5, wide + "order ^o 1:zz,c,b,zz,a,a;");
        fault(3, wide + "order o 1:a,b,^a,b;");
        fault(4, wide + "order o 1:a,b,^zz;");
        fault(3, wide + "order o 1;order ^o 1:a,b,c;");
        // the first by its place
        fault(5, "field a ^0;field a 1;order o 1:x;");
        fault(4, "order o 1:^x;field a 0;field a 1;");
    }

    private static void readings() {
        Desk x = Desk.laid("field a 4;order r 3:a;alias z=r,a 9;room 2 4;", 8, 3);
        Due.same("reads", 0, x.reads(9, 1));
        Due.same("read with a FAULT", 5, x.readText("field a 0;"));
        Due.same("place", 8, x.place());
        Due.same("all stays laid", 8, x.count(4));
        Due.same("got stays", 9, x.got(0));
        Due.same("alias stays", 0, x.got(-1));
        Due.same("FIELDS stay", 1, x.count(0));
        Due.same("give", true, x.give(0, 3));
        Due.same("a new text", 0, x.readText("field b 2;field c 3;order s 4:b;order t 5:c,b;"));
        Due.same("place", -1, x.place());
        Due.same("nothing is laid", 0, x.count(4));
        Due.same("fields", 2, x.count(0));
        Due.same("orders", 2, x.count(1));
        Due.same("aliases", 0, x.count(2));
        Due.same("rooms", 0, x.count(3));
        Due.same("got is gone", -1, x.got(0));
        Due.same("word needs a laying", -1, x.word(0));
        Due.same("lay", 9, x.lay(8));
        Due.same("got is none since", -1, x.got(-1));
        Due.same("given numbers stay", 3, x.word(0) & 3);
        Due.same("a third text", 0, x.readText("field b 2;order s 4:b;room 1 1;"));
        Due.same("fields", 1, x.count(0));
        Due.same("orders", 1, x.count(1));
        Due.same("aliases", 0, x.count(2));
        Due.same("rooms", 1, x.count(3));
    }

    private static void shortAndLong() {
        // a SHORT ORDER of 7 BITS takes a half; two take all, a third has no place
        Desk.laid("field a 7;order p 5:a;order q 5:a;", 8, 10);
        Desk x = Desk.laid("field a 7;order p 5:a;order q 5:a;order r 5:a;", 8, 25);
        Due.same("ORDER 0 is SHORT of alike ones", 1, x.order(0, 3));
        Due.same("ORDER 1", 2, x.order(1, 3));
        Due.same("ORDER 2", 2, x.order(2, 3));
        x = Desk.laid("field a 7;order p 5:a;order q 5:a;order r 6:a;", 8, 26);
        Due.same("the one that saves most", 1, x.order(2, 3));
        Due.same("not ORDER 0", 2, x.order(0, 3));
        Due.same("not ORDER 1", 2, x.order(1, 3));
        // two that are small save more than the one that is dear
        x = Desk.laid("field a 6;field b 5;order p 9:a;order q 5:b;order r 5:b;room 1 15;room 1 13;", 8, 28);
        Due.same("p", 2, x.order(0, 3));
        Due.same("q", 1, x.order(1, 3));
        Due.same("r", 1, x.order(2, 3));
        // USE 0: SHORT where it can be
        x = Desk.laid("order p 0;order q 0;", 8, 0);
        Due.same("p", 1, x.order(0, 3));
        Due.same("q", 1, x.order(1, 3));
        Due.same("SHORT ORDERS", 2, x.count(5));
        // the greatest BITS of a SHORT one and of a LONG one
        x = Desk.laid("field a 8;field b 7;order p 1:a;", 8, 2);
        Due.same("8 BITS are LONG", 2, x.order(0, 3));
        x = Desk.laid("field a 8;field b 7;order p 1:a,b;", 8, 2);
        Due.same("15 BITS: a MARK of one bit", 1, x.order(0, 4));
        x = Desk.laid("field a 15;order p 1:a;", 16, 1);
        Due.same("15 BITS are SHORT", 1, x.order(0, 3));
        x = Desk.laid("field a 16;order p 1:a;", 16, 2);
        Due.same("16 BITS are LONG", 2, x.order(0, 3));
        x = Desk.laid("field a 16;field b 8;order p 1:a,b;", 16, 2);
        Due.same("24 BITS", 8, x.order(0, 4));
    }

    private static void noWay() {
        Desk x = Desk.told("field a 16;order p 1:a;");
        Due.same("no MARK for 16 BITS", -2, x.lay(8));
        Due.same("nothing is laid", 0, x.count(4));
        Due.same("laid by 16", 2, x.lay(16));
        Due.same("reads", 0, x.reads(7, 2));
        Due.same("no way by 8 again", -2, x.lay(8));
        Due.same("what was laid stays", 16, x.count(4));
        Due.same("got stays", 7, x.got(0));
        Due.same("word stays", 0, x.word(0));
        for (int u : new int[] {0, -8, 4, 9, 15, 17, 32, Integer.MIN_VALUE, Integer.MAX_VALUE}) {
            Due.same("lay(" + u + ")", -1, x.lay(u));
        }
        Due.same("what was laid stays", 16, x.count(4));
        Due.same("a room of 16 bits", -2, Desk.told("room 1 16;").lay(8));
        Due.same("a room of 15 bits", 0, Desk.told("room 1 15;").lay(8));
        Due.same("two rooms of 15 bits", 0, Desk.told("room 1 15;room 1 15;").lay(8));
        Due.same("a room of three times 15 bits", -2, Desk.told("room 3 15;").lay(8));
        Due.same("all is taken, and one more", -2, Desk.told("room 2 15;order p 1;").lay(8));
        Due.same("all but one", 2, Desk.told("room 1 15;room 31 10;room 31 5;room 31 0;order p 1;").lay(8));
        // 65536 - 32768 - 126 * 256 leaves 512, which two SHORT ones take; 128 fewer leave one of them LONG
        Due.same("exactly full", 2, Desk.told("room 1 15;room 64 8;room 62 8;order p 1;order q 1;").lay(8));
        Desk y = Desk.told("room 1 15;room 64 8;room 62 8;room 1 7;order p 1;order q 1;");
        Due.same("one of both is SHORT", 3, y.lay(8));
        Due.same("the first", 1, y.order(0, 3));
        Due.same("256 are left", 128, Desk.told("room 1 15;room 64 8;room 63 8;order p 128;").lay(8));
        Due.same("256 are left, for two", 4, Desk.told("room 1 15;room 64 8;room 63 8;order p 1;order q 1;").lay(8));
        Due.same("nothing is left", -2, Desk.told("room 1 15;room 64 8;room 64 8;order p 128;").lay(8));
        Due.same("full by 16", 0, Desk.told("room 64 24;room 64 24;room 64 24;room 64 24;").lay(16));
        Due.same("above full by 16", -2, Desk.told("room 64 24;room 64 24;room 64 24;room 64 24;order p 1;").lay(16));
    }

    private static void marks() {
        // of as many bits: ORDERS first, then rooms; fewer bits ahead
        Desk x = Desk.laid("field a 4;field b 6;order p 1;order q 2:a;order r 3:b;room 3 12;order s 4:a;room 2 8;", 8, 10);
        Due.same("r has the fewest", 2, x.order(2, 4));
        Due.same("r's MARK", 0, x.order(2, 5));
        Due.same("q's bits", 4, x.order(1, 4));
        Due.same("q's MARK", 4, x.order(1, 5));
        Due.same("s's MARK", 5, x.order(3, 5));
        Due.same("room 0's bits", 4, x.room(0, 3));
        Due.same("room 0's first MARK", 6, x.room(0, 4));
        Due.same("p's bits", 8, x.order(0, 4));
        Due.same("p's MARK", 9 << 4, x.order(0, 5));
        Due.same("room 1's bits", 8, x.room(1, 3));
        Due.same("room 1's first MARK", (9 << 4) + 1, x.room(1, 4));
        // a MARK of 32 bits as an int
        Desk y = Desk.laid("field a 15;order p 9:a;room 63 24;room 64 24;room 1 23;room 63 0;", 16, 9);
        Due.same("a MARK of 32 bits", (int) 0xff800000L, y.room(3, 4));
        Due.same("its bits", 32, y.room(3, 3));
    }

    private static void rows() {
        // the second ORDER turns its FIELDS so that both stay where they are
        Desk x = Desk.laid("field a 3;field b 2;field c 4;order p 1:a,b;order q 1:b,a;order r 1:a,c;", 16, 3);
        Due.same("a in p", 2, x.order(0, 10));
        Due.same("b in p", 0, x.order(0, 11));
        Due.same("b in q", 0, x.order(1, 10));
        Due.same("a in q", 2, x.order(1, 11));
        Due.same("a in r: none is better, as told", 4, x.order(2, 10));
        Due.same("c in r", 0, x.order(2, 11));
        Due.same("PLACES of a", 2, x.field(0, 2));
        Due.same("PLACES of b", 1, x.field(1, 2));
        Due.same("PLACES of c", 1, x.field(2, 2));
        Desk y = Desk.laid("field a 3;field b 2;field c 4;order p 1:a;order q 1:a,c;", 16, 2);
        Due.same("a stays at 0", 0, y.order(1, 10));
        Due.same("c ahead of it", 3, y.order(1, 11));
        // PLACES of a text or a laying ahead do not count
        Desk z = Desk.laid("field a 3;field b 2;order p 1:a;room 2 9;", 16, 1);
        Due.same("one that comes", 1, z.addText("order q 1:a,b;"));
        Due.same("a stays at 0", 0, z.order(1, 10));
        Due.same("b ahead of it", 3, z.order(1, 11));
        Due.same("a new text", 0, z.readText("field a 3;field b 2;order q 1:a,b;"));
        Due.same("lay", 1, z.lay(16));
        Due.same("a stands first", 2, z.order(0, 10));
        Due.same("PLACES of a", 1, z.field(0, 2));
        Due.same("PLACES of b", 1, z.field(1, 2));
    }

    private static void coming() {
        Desk x = Desk.told("field a 4;field b 3;order r 3:a;alias z=r,a 9;room 1 2;room 2 7;");
        x.feedText("order s 1;");
        Due.same("nothing is laid", -3, x.add());
        Due.same("the tape is empty", 0, x.count(8));
        Due.same("a FAULT that is kept", 1, x.readText("field a 1"));
        Due.same("place", 9, x.place());
        Due.same("-3 ahead of a FAULT", -3, x.addText("nothing"));
        Due.same("place is not changed by -3", 9, x.place());
        Due.same("lay", 3, x.lay(8));
        Due.same("one that comes to the second room", 1, x.addText("order s 5:b,a;"));
        Due.same("place is gone", -1, x.place());
        Due.same("its UNITS", 2, x.order(1, 3));
        Due.same("its MARK's bits", 9, x.order(1, 4));
        Due.same("its MARK", x.room(1, 4), x.order(1, 5));
        Due.same("it came", 1, x.order(1, 6));
        Due.same("the other did not", 0, x.order(0, 6));
        Due.same("a stays at its PLACE", 0, x.order(1, 11));
        Due.same("b", 4, x.order(1, 10));
        Due.same("COST", 13, x.count(6));
        Due.same("free", 2, x.count(7));
        Due.same("taken", 1, x.room(1, 2));
        Due.same("taken of the first", 0, x.room(0, 2));
        Due.same("to the first room", 2, x.addText(" order t 1 ; "));
        Due.same("0s behind its MARK", x.room(0, 4) << 2, x.order(2, 5));
        Due.same("its MARK's bits", 16, x.order(2, 4));
        Due.same("the first is full", 3, x.addText("order u 1;"));
        Due.same("0s behind its MARK", x.room(1, 4) + 1 << 7, x.order(3, 5));
        Due.same("place without", -1, x.place());
        Due.same("a FAULT", -1, x.addText("order u 1;"));
        Due.same("place", 6, x.place());
        Due.same("all are full", -2, x.addText("order v 1;"));
        Due.same("place is not changed by -2", 6, x.place());
        Due.same("the tape is empty", 0, x.count(8));
        Due.same("it is none", 4, x.count(1));
        Due.same("no such", -1, x.order(4, 0));
        Due.same("ORDERS with a", 2, x.field(0, 1));
        Due.same("laid again", 10, x.lay(8));
        Due.same("none came since", 0, x.order(1, 6));
        Due.same("all rooms are free", 3, x.count(7));
        Due.same("v has a place then", 4, x.addText("order v 1;"));
        Due.same("a new text", 0, x.readText(""));
        Due.same("nothing is there", 0, x.count(1));
    }

    private static void comingFaults() {
        Desk x = Desk.laid("field a 16;field b 8;field c 1;order r 3:a;alias z=r,a 9;room 4 3;", 16, 6);
        String[] texts = {"^", "   ^", "^field d 1;", "^alias q=r;", "^room 1 1;", "^;", "order^", "order s 1^", "order s 1:^;",
            "order s 1;^;", "order s 1; ^order t 1;", "order s 1;\n^field", "order s 1;^%", "order ^r 1;", "order ^z 1;",
            "order s ^10001;", "order s 1:^d;", "order s 1:b,^b;", "order ^s 1:a,b,c;", "order s 1:^s;", "order s 1:^r;",
            "order s 1:a,a,a,a,a,a,^a;", "order s ^123456;", "order ^room 1;"};
        for (String marked : texts) {
            String text = marked.replace("^", "");
            Due.same("add of <" + text + ">", -1, x.addText(text));
            Due.same("place in <" + text + ">", marked.indexOf('^'), x.place());
            Due.same("none came", 1, x.count(1));
            Due.same("free", 4, x.count(7));
            Due.same("tape", 0, x.count(8));
        }
        Due.same("too many BITS for the room", -2, x.addText("order s 1:b;"));
        Due.same("a bit fits", 1, x.addText("order s 1:c;"));
        Due.same("ORDERS with c", 1, x.field(2, 1));
    }

    private static void fortyOrders() {
        Desk x = Desk.laid(repeat("order o# 1;", 0, 24) + "room 64 3;", 16, 24);
        for (int k = 24; k < 40; k++) {
            Due.same("one that comes", k, x.addText("order o" + k + " 1;"));
        }
        Due.same("a 41st", -1, x.addText(" order o40 1;"));
        Due.same("place of it", 1, x.place());
        Due.same("SYNTAX ahead of it", -1, x.addText("x order o40 1;"));
        Due.same("place", 0, x.place());
        Due.same("nothing on the tape", -1, x.addText("  "));
        Due.same("place at the end", 2, x.place());
        Due.same("orders", 40, x.count(1));
        Due.same("free", 48, x.count(7));
        Due.same("COST", 24 + 32, x.count(6));
        Due.same("laid again", 40, x.lay(16));
        Due.same("all are SHORT", 40, x.count(5));
        Desk y = Desk.laid("room 64 1;", 8, 0);
        for (int k = 0; k < 40; k++) {
            Due.same("one that comes to nothing", k, y.addText("order o" + k + " 10000;"));
        }
        Due.same("a 41st", -1, y.addText("order p 1;"));
        Due.same("place of it", 0, y.place());
        Due.same("COST", 800000, y.count(6));
    }

    private static final String ASKED = "field a 4;field b 3;order r 3:a,b;order s 0;alias z=r,b 5,a 9;alias y=s;room 2 4;";

    private static void askedOf() {
        Desk x = Desk.told(ASKED);
        Due.same("USE", 3, x.order(0, 0));
        Due.same("FIELDS", 2, x.order(0, 1));
        Due.same("BITS", 7, x.order(0, 2));
        Due.same("FIELD 0", 0, x.order(0, 20));
        Due.same("FIELD 1", 1, x.order(0, 21));
        Due.same("BITS without FIELDS", 0, x.order(1, 2));
        Due.same("WIDTH", 3, x.field(1, 0));
        Due.same("ORDERS with it", 1, x.field(1, 1));
        Due.same("room's ORDERS", 2, x.room(0, 0));
        Due.same("room's bits", 4, x.room(0, 1));
        Due.same("alias's ORDER", 0, x.alias(0, 0));
        Due.same("alias's ORDER", 1, x.alias(1, 0));
        Due.same("held", 2, x.alias(0, 1));
        Due.same("held", 0, x.alias(1, 1));
        Due.same("its row's first FIELD", 1, x.alias(0, 10));
        Due.same("its row's second FIELD", 0, x.alias(0, 11));
        Due.same("held number", 5, x.alias(0, 20));
        Due.same("held number", 9, x.alias(0, 21));
        for (int what : new int[] {3, 4, 5, 6, 7, 10, 11}) {
            Due.same("order as laid", -1, x.order(0, what));
        }
        for (int what : new int[] {2, 3, 4}) {
            Due.same("room as laid", -1, x.room(0, what));
        }
        Due.same("field as laid", -1, x.field(0, 2));
        Due.same("word", -1, x.word(0));
        Due.same("reads", -1, x.reads(0, 2));
        for (int what : new int[] {0, 1, 2}) {
            Due.same("tests as laid", -1, x.tests(what));
        }
        for (int what : new int[] {4, 5, 6, 7}) {
            Due.same("count as laid", 0, x.count(what));
        }
        others(() -> Desk.told(ASKED));
        others(() -> Desk.laid(ASKED, 8, 3));
        others(() -> Desk.told(""));
    }

    /** What names nothing is NONE, before and after a laying. */
    private static void others(Supplier<Desk> desks) {
        int[] far = {-1, -2, 64, 1000, Integer.MIN_VALUE, Integer.MAX_VALUE};
        for (int k : far) {
            Desk x = desks.get();
            for (int what = 0; what < 30; what++) {
                Due.same("order of " + k, -1, x.order(k, what));
                Due.same("field of " + k, -1, x.field(k, what));
                Due.same("room of " + k, -1, x.room(k, what));
                Due.same("alias of " + k, -1, x.alias(k, what));
            }
            Due.same("word of " + k, -1, x.word(k));
            Due.same("got of " + k, -1, x.got(k));
            Due.same("tests of " + k, -1, x.tests(k));
            Due.same("count of " + k, -1, x.count(k));
            Due.same("reads of units " + k, -1, x.reads(0, k));
            for (int what : far) {
                Due.same("order", -1, x.order(0, what));
                Due.same("field", -1, x.field(0, what));
                Due.same("room", -1, x.room(0, what));
                Due.same("alias", -1, x.alias(0, what));
            }
        }
        Desk x = desks.get();
        for (int what : new int[] {8, 9, 12, 19, 22, 26}) {
            Due.same("order(0, " + what + ")", -1, x.order(0, what));
        }
        for (int what : new int[] {2, 9, 12, 19, 22}) {
            Due.same("alias(0, " + what + ")", -1, x.alias(0, what));
        }
        Due.same("order(1, 10)", -1, x.order(1, 10));
        Due.same("order(1, 20)", -1, x.order(1, 20));
        Due.same("order(2, 0)", -1, x.order(2, 0));
        Due.same("field(2, 0)", -1, x.field(2, 0));
        Due.same("field(0, 3)", -1, x.field(0, 3));
        Due.same("room(1, 0)", -1, x.room(1, 0));
        Due.same("room(0, 5)", -1, x.room(0, 5));
        Due.same("alias(2, 0)", -1, x.alias(2, 0));
        Due.same("tests(3)", -1, x.tests(3));
        Due.same("count(9)", -1, x.count(9));
        Due.same("reads of no units", -1, x.reads(0, 0));
        Due.same("reads of three", -1, x.reads(0, 3));
        Due.same("word(2)", -1, x.word(2));
    }

    private static void giving() {
        Desk x = Desk.laid("field a 16;field b 1;field c 4;order p 1:a,b,c;order q 1:b;order r 1;", 16, 4);
        Due.same("give i below", false, x.give(-1, 0));
        Due.same("give i above", false, x.give(6, 0));
        Due.same("give v below", false, x.give(0, -1));
        Due.same("give v above", false, x.give(0, 65536));
        Due.same("0 at first", (long) x.order(0, 5) << 21, x.word(0));
        Due.same("give", true, x.give(0, 65535));
        Due.same("give", true, x.give(1, 1));
        Due.same("give", true, x.give(2, 15));
        Due.same("give the last", true, x.give(5, 65535));
        Due.same("all ones", ((long) x.order(0, 5) << 21) + 0x1fffff, x.word(0));
        Due.same("too great for q", -1, x.word(1));
        Due.same("r asks for none", (long) x.order(2, 5), x.word(2));
        Due.same("give", true, x.give(2, 16));
        Due.same("too great for c", -1, x.word(0));
        Due.same("give wrongly", false, x.give(2, 65536));
        Due.same("nothing changed", -1, x.word(0));
        Due.same("give", true, x.give(2, 0));
        Due.same("give", true, x.give(0, 1));
        Due.same("q", ((long) x.order(1, 5) << 1) + 1, x.word(1));
        Due.same("p", ((long) x.order(0, 5) << 21) + (1L << x.order(0, 10)) + (1L << x.order(0, 11)), x.word(0));
        // a WORD of 32 bits with its highest one set is no number below 0
        Desk y = Desk.laid("room 64 24;room 64 24;field a 16;field b 7;order p 1:a,b;", 16, 2);
        Due.same("a WORD above 2^31", 0x80000000L, y.word(0));
        Due.same("it is read", 0, y.reads(0x80000000L, 2));
        Due.same("it is read with all bits above", 0, y.reads(0xffffffff80000000L, 2));
    }

    private static void readingWords() {
        Desk x = Desk.laid("field f 3;field g 2;order p 9:f,g;order q 1:g;order r 0:f;alias a=p,f 5,g 1;alias b=p,g 1;alias c=p;"
            + "alias d=q,g 3;room 2 13;", 8, 10);
        Due.same("got ahead of any", -1, x.got(0));
        Due.same("p, f 5, g 1", 0, x.reads(5 << 2 | 1, 1));
        Due.same("f", 5, x.got(0));
        Due.same("g", 1, x.got(1));
        Due.same("the first ALIAS", 0, x.got(-1));
        Due.same("p, f 4, g 1", 0, x.reads(4 << 2 | 1, 1));
        Due.same("the second ALIAS", 1, x.got(-1));
        Due.same("p, g 2", 0, x.reads(2, 1));
        Due.same("an ALIAS without FIELDS", 2, x.got(-1));
        Due.same("no such FIELD", -1, x.got(2));
        Due.same("no such FIELD", -1, x.got(-2));
        Due.same("those behind are not looked at", 0, x.reads((5 << 2 | 1) << 8 | 0xff, 2));
        Due.same("f", 5, x.got(0));
        Due.same("only the lowest bits", 0, x.reads(0x7777777777770000L | 6, 1));
        Due.same("f", 1, x.got(0));
        long free = (long) x.room(0, 4) << 13;
        Due.same("a free MARK", -1, x.reads(free, 2));
        Due.same("got stays", 2, x.got(1));
        Due.same("r in one UNIT", 2, x.reads((long) x.order(2, 5) << 3 | 6, 1));
        Due.same("no ALIAS", -1, x.got(-1));
        Due.same("one that comes", 3, x.addText("order s 1:f;"));
        Due.same("got stays", 6, x.got(0));
        long word = x.word(3);
        Due.same("its WORD", free, word);
        Due.same("two UNITS", 3, x.reads(word | 7, 2));
        Due.same("f", 7, x.got(0));
        Due.same("one of its UNITS", -1, x.reads(word >> 8, 1));
        Due.same("not with a bit behind its MARK", -1, x.reads(word | 8, 2));
        Due.same("no ALIAS of it", -1, x.got(-1));
        // a LONG ORDER whose MARK one UNIT holds
        Desk y = Desk.laid("field h 8;field i 5;order t 1:h,i;", 8, 2);
        Due.same("a MARK of three bits", 3, y.order(0, 4));
        Due.same("one UNIT is not enough", -1, y.reads(0, 1));
        Due.same("nothing was got", -1, y.got(0));
        Due.same("two are", 0, y.reads(0, 2));
        Due.same("laid again", 11, x.lay(8));
        Due.same("got is gone", -1, x.got(0));
        Due.same("its ALIAS is gone", -1, x.got(-1));
    }

    private static void decoding() {
        Desk none = Desk.laid("", 8, 0);
        Due.same("no TESTS", 0, none.tests(0));
        Due.same("no way", 0, none.tests(1));
        Due.same("no ends", 0, none.tests(2));
        Desk one = Desk.laid("order p 1;", 8, 1);
        Due.same("one MARK: no TEST", 0, one.tests(0));
        Due.same("one end", 1, one.tests(2));
        Due.same("nothing ahead of it", 0, one.order(0, 7));
        Desk rooms = Desk.laid("room 5 3;room 6 4;", 16, 0);
        Due.same("rooms alone: no TEST", 0, rooms.tests(0));
        Due.same("rooms alone: one end", 1, rooms.tests(2));
        // four of 8 bits: 0, 1, 2, 3: bit 6 and bit 7 each part them in halves
        Desk four = Desk.laid("order p 1;order q 1;order r 1;order s 1;", 8, 4);
        Due.same("three TESTS", 3, four.tests(0));
        Due.same("two to an end", 2, four.tests(1));
        Due.same("four ends", 4, four.tests(2));
        Due.same("two ahead", 2, four.order(3, 7));
        // MARKS 00, 010, 011, 10000000 .. : bit 0 parts 3 and 1, bit 1 parts 2 and 2
        Desk x = Desk.laid("field a 6;field b 5;order p 9:a;order q 9:b;order r 9:b;order s 9;", 8, 36);
        Due.same("TESTS", 3, x.tests(0));
        Due.same("to an end", 2, x.tests(1));
        Due.same("p", 2, x.order(0, 7));
        Due.same("s", 2, x.order(3, 7));
        // p 0, q 1, a room's 2 and 3: bit 6 and bit 7 part them alike; by the first no more is asked of the room's
        Desk first = Desk.laid("order p 1;order q 1;room 2 8;", 8, 2);
        Due.same("TESTS", 2, first.tests(0));
        Due.same("ends", 3, first.tests(2));
        Due.same("q", 2, first.order(1, 7));
        // all MARKS of a room are taken: its end is none
        Desk taken = Desk.laid("order p 1;room 1 0;", 8, 1);
        Due.same("two ends", 2, taken.tests(2));
        Due.same("one that comes", 1, taken.addText("order q 1;"));
        Due.same("two ends", 2, taken.tests(2));
        Due.same("one TEST", 1, taken.tests(0));
        Due.same("ahead of q", 1, taken.order(1, 7));
        Desk y = Desk.laid("field a 6;order p 9:a;room 4 6;", 8, 9);
        Due.same("TESTS", 1, y.tests(0));
        Due.same("ends", 2, y.tests(2));
        Due.same("one that comes", 1, y.addText("order q 1:a;"));
        Due.same("TESTS", 3, y.tests(0));
        Due.same("to an end", 3, y.tests(1));
        Due.same("ends", 4, y.tests(2));
    }

    public static void main(String[] args) {
        face();
        newObject();
        tape();
        syntaxFaults();
        roomFaults();
        meaningFaults();
        readings();
        shortAndLong();
        noWay();
        marks();
        rows();
        coming();
        comingFaults();
        fortyOrders();
        askedOf();
        giving();
        readingWords();
        decoding();
        Due.end("all promises are kept");
    }
}
