/** The document's Terms, parts II and III: each sentence with the last that is taken and the first that is refused. */
public final class WordMintLayingEdges {
    /** By 16 these ORDERS of 23 .. 16 BITS and rooms leave 2^16 of 2^32: as much as one SHORT ORDER without FIELDS takes. */
    private static final String ALL_BUT_A_SHORT_ONE = "field a 16;field b 1;field c 2;field d 4;"
        + "room 64 24;room 64 24;room 64 24;room 63 24;order a 1:a,b,c,d;order b 1:a,c,d;order c 1:a,b,d;order d 1:a,d;"
        + "order e 1:a,b,c;order f 1:a,c;order g 1:a,b;order h 1:a;";

    private static void noWay(String text, int u) {
        Desk x = Desk.told(text);
        Due.same("lay(" + u + ") of <" + text + ">", -2, x.lay(u));
        Due.same("bits of a UNIT behind it", 0, x.count(4));
        Due.same("TESTS behind it", -1, x.tests(0));
    }

    private static void units(Desk x, int... units) {
        for (int k = 0; k < units.length; k++) {
            Due.same("UNITS of ORDER " + k, units[k], x.order(k, 3));
        }
    }

    private static void mark(Desk x, int k, int bits, int number) {
        Due.same("bits of ORDER " + k + "'s MARK", bits, x.order(k, 4));
        Due.same("ORDER " + k + "'s MARK", number, x.order(k, 5));
    }

    private static void roomMark(Desk x, int k, int bits, int number) {
        Due.same("bits of room " + k + "'s MARKS", bits, x.room(k, 3));
        Due.same("room " + k + "'s first MARK", number, x.room(k, 4));
    }

    private static void places(Desk x, int k, int... places) {
        for (int i = 0; i < places.length; i++) {
            Due.same("PLACE of ORDER " + k + "'s FIELD " + i, places[i], x.order(k, 10 + i));
        }
    }

    private static void tree(Desk x, int tests, int most, int ends) {
        Due.same("TESTS", tests, x.tests(0));
        Due.same("the most to an end", most, x.tests(1));
        Due.same("ends", ends, x.tests(2));
    }

    private static void ahead(Desk x, int... tests) {
        for (int k = 0; k < tests.length; k++) {
            Due.same("TESTS ahead of ORDER " + k, tests[k], x.order(k, 7));
        }
    }

    // ---- II. LAYING

    private static void oneBitAtLeast() {
        Due.sentence("The WORD's first bits, as many as it has less its BITS, are its MARK; it has one bit at least.");
        Desk x = Desk.laid("field a 7;order p 3:a;", 8, 3);
        units(x, 1);
        mark(x, 0, 1, 0);
        x = Desk.laid("field a 8;order p 3:a;", 8, 6);
        units(x, 2);
        mark(x, 0, 8, 0);
        x = Desk.laid("field a 8;field b 7;order p 3:a,b;", 8, 6);
        units(x, 2);
        mark(x, 0, 1, 0);
        noWay("field a 8;field b 8;order p 3:a,b;", 8);
        noWay("field a 16;order p 3:a;", 8);
        noWay("field a 16;field b 8;order p 3:a,b;", 8);
        noWay("field a 16;order q 1;order p 0:a;", 8);
        x = Desk.laid("field a 15;order p 3:a;", 16, 3);
        units(x, 1);
        mark(x, 0, 1, 0);
        x = Desk.laid("field a 16;order p 3:a;", 16, 6);
        units(x, 2);
        mark(x, 0, 16, 0);
        x = Desk.laid("field a 16;field b 8;order p 3:a,b;", 16, 6);
        mark(x, 0, 8, 0);
        x = Desk.laid("order p 3;", 8, 3);
        mark(x, 0, 8, 0);
        x = Desk.laid("order p 3;", 16, 3);
        mark(x, 0, 16, 0);
    }

    private static void roomsMarks() {
        Due.sentence("A room has as many MARKS of LONG WORDS as it has ORDERS, each with the room's bits behind it.");
        roomMark(Desk.laid("room 1 15;", 8, 0), 0, 1, 0);
        roomMark(Desk.laid("room 1 0;", 8, 0), 0, 16, 0);
        noWay("room 1 16;", 8);
        noWay("room 1 24;", 8);
        noWay("order p 1;room 1 0;room 1 16;", 8);
        roomMark(Desk.laid("room 1 24;", 16, 0), 0, 8, 0);
        roomMark(Desk.laid("room 1 16;", 16, 0), 0, 16, 0);
        roomMark(Desk.laid("room 1 0;", 16, 0), 0, 32, 0);
        Desk x = Desk.laid("room 3 7;room 1 7;", 8, 0);
        roomMark(x, 0, 9, 0);
        roomMark(x, 1, 9, 3);
    }

    private static void oneAtMost() {
        Due.sentence("A MARK of m bits takes 1 / 2^m; all together take 1 at most.");
        Desk.laid("room 2 15;", 8, 0);
        noWay("room 2 15;room 1 0;", 8);
        noWay("room 3 15;", 8);
        noWay("room 2 15;order p 1;", 8);
        Desk.laid("field a 8;field b 7;order p 3:a,b;order q 4:b,a;", 8, 14);
        noWay("field a 8;field b 7;order p 3:a,b;order q 4:b,a;order r 1;", 8);
        noWay("field a 8;field b 7;order p 3:a,b;order q 4:b,a;room 1 0;", 8);
        // 1 + 31 * 32 + 31 * 1024 + 32768 is one below 65536
        units(Desk.laid("room 1 15;room 31 10;room 31 5;room 31 0;order p 3;", 8, 6), 2);
        noWay("room 1 15;room 31 10;room 31 5;room 31 0;order p 3;order q 0;", 8);
        noWay("room 1 15;room 31 10;room 31 5;room 32 0;order p 3;", 8);
        Desk.laid("room 64 24;room 64 24;room 64 24;room 64 24;", 16, 0);
        noWay("room 64 24;room 64 24;room 64 24;room 64 24;order p 1;", 16);
        String most = "field a 16;field b 8;field c 7;room 64 24;room 64 24;room 64 24;room 63 24;";
        Desk.laid(most + "order p 3:a,b;", 16, 6);
        noWay(most + "order p 3:a,b;order q 1;", 16);
        Desk.laid(most + "order p 3:a,c;order q 4:c,a;", 16, 14);
        noWay(most + "order p 3:a,c;order q 4:c,a;order r 0;", 16);
    }

    private static void shortOnesWithinOne() {
        Due.sentence("Of all ways to be SHORT or LONG by which all that is so");
        units(Desk.laid("field a 7;order p 3:a;order q 4:a;", 8, 7), 1, 1);
        units(Desk.laid("field a 7;order p 3:a;order q 4:a;order r 0;", 8, 10), 2, 1, 1);
        // 256 are left of 65536: a SHORT one of no BITS takes all of it
        units(Desk.laid("room 1 15;room 64 8;room 63 8;order p 3;", 8, 3), 1);
        units(Desk.laid("room 1 15;room 64 8;room 63 8;room 1 0;order p 3;", 8, 6), 2);
        // 512 are left, or 511, or 257
        units(Desk.laid("room 1 15;room 64 8;room 62 8;order p 3;order q 4;", 8, 7), 1, 1);
        units(Desk.laid("room 1 15;room 64 8;room 62 8;room 1 0;order p 3;order q 4;", 8, 10), 2, 1);
        units(Desk.laid("room 1 15;room 64 8;room 62 8;order p 3;order q 4;order r 5;", 8, 19), 2, 2, 1);
        units(Desk.laid("room 1 15;room 64 8;room 63 8;order p 3;order q 4;", 8, 14), 2, 2);
        // by 16: 65536 are left of 2^32
        units(Desk.laid(ALL_BUT_A_SHORT_ONE + "order i 3;", 16, 19), 2, 2, 2, 2, 2, 2, 2, 2, 1);
        units(Desk.laid(ALL_BUT_A_SHORT_ONE + "order i 3;order j 0;", 16, 22), 2, 2, 2, 2, 2, 2, 2, 2, 2, 2);
    }

    private static void leastCost() {
        Due.sentence("that with the least COST is taken");
        String fields = "field a 7;field b 6;";
        // either p, or both q and r
        units(Desk.laid(fields + "order p 3:a;order q 2:b;order r 2:b;room 1 14;", 8, 10), 2, 1, 1);
        units(Desk.laid(fields + "order p 5:a;order q 2:b;order r 2:b;room 1 14;", 8, 13), 1, 2, 2);
        units(Desk.laid(fields + "order p 5:a;order q 6:a;order r 5:a;", 8, 26), 2, 1, 2);
        units(Desk.laid(fields + "order p 9999:a;order q 10000:a;order r 9999:a;", 8, 49996), 2, 1, 2);
        units(Desk.laid(fields + "order p 0:a;order q 0:a;order r 1:a;", 8, 1), 2, 2, 1);
        Due.sentence("of alike ones that in which ORDER 0 is SHORT, else LONG, then ORDER 1, and so on.");
        units(Desk.laid(fields + "order p 4:a;order q 2:b;order r 2:b;room 1 14;", 8, 12), 1, 2, 2);
        units(Desk.laid(fields + "order q 2:b;order p 4:a;order r 2:b;room 1 14;", 8, 12), 1, 2, 1);
        units(Desk.laid(fields + "order q 2:b;order r 2:b;order p 4:a;room 1 14;", 8, 12), 1, 1, 2);
        units(Desk.laid(fields + "order p 5:a;order q 5:a;order r 5:a;", 8, 25), 1, 2, 2);
        units(Desk.laid(fields + "order p 0:a;order q 0:a;order r 0:a;", 8, 0), 1, 2, 2);
        units(Desk.laid(fields + "order o 1:a;order p 5:a;order q 5:a;", 8, 17), 2, 1, 2);
        units(Desk.laid("order p 0;order q 0;", 8, 0), 1, 1);
        units(Desk.laid("field a 5;order p 0:a;order q 7:a;order r 0:a;room 1 15;room 1 14;", 8, 7), 2, 1, 2);
    }

    private static void nothingIsLaid() {
        Due.sentence("(If there is none, nothing is laid.)");
        Desk x = Desk.told("field a 8;order p 3:a;room 2 15;");
        String state = x.state();
        Due.same("lay", -2, x.lay(8));
        Due.same("all behind it", state, x.state());
        Due.same("add", -3, x.addText("order q 1;"));
        Due.same("lay", 3, x.lay(16));
        Desk none = Desk.laid("", 8, 0);
        Due.same("nothing can be laid", 8, none.count(4));
        Desk.laid("field a 3;", 16, 0);
    }

    private static void marksInARow() {
        Due.sentence("MARKS by their bits, the fewest first; those with as many: ORDERS by numbers, then rooms by numbers");
        Desk x = Desk.laid("field a 4;field b 6;order p 1;order q 2:a;order r 3:b;room 3 12;order s 4:a;room 2 8;room 1 12;", 8, 10);
        mark(x, 2, 2, 0);
        mark(x, 1, 4, 4);
        mark(x, 3, 4, 5);
        roomMark(x, 0, 4, 6);
        roomMark(x, 2, 4, 9);
        mark(x, 0, 8, 10 << 4);
        roomMark(x, 1, 8, (10 << 4) + 1);
        Due.sentence("the first is 0; each further one is the one ahead, plus 1, with as many 0s behind as it has bits more.");
        Desk y = Desk.laid("field a 7;order o 1:a;field b 6;order p 1:b;order q 1;room 1 0;", 8, 3);
        mark(y, 0, 1, 0);
        mark(y, 1, 2, 2);
        mark(y, 2, 8, 192);
        roomMark(y, 0, 16, 193 << 8);
    }

    private static void marksOfThirtyTwoBits() {
        Due.sentence("5: the MARK as a number (one of 32 bits as an int)");
        Desk x = Desk.laid(ALL_BUT_A_SHORT_ONE + "order i 1;order j 1;", 16, 20);
        mark(x, 0, 9, 510);
        mark(x, 7, 16, 65534);
        mark(x, 8, 32, 0xffff0000);
        mark(x, 9, 32, 0xffff0001);
        Due.same("word(8)", 0xffff0000L, x.word(8));
        Due.same("word(9)", 0xffff0001L, x.word(9));
        Due.same("reads", 9, x.reads(0xffff0001L, 2));
        Due.same("reads of none", -1, x.reads(0xffff0002L, 2));
        Desk y = Desk.laid(ALL_BUT_A_SHORT_ONE + "order i 1:b;order j 1;", 16, 20);
        mark(y, 8, 31, 0x7fff8000);
        mark(y, 9, 32, 0xffff0002);
        Desk z = Desk.laid("field a 15;order p 9:a;room 63 24;room 64 24;room 1 23;room 63 0;", 16, 9);
        roomMark(z, 0, 8, 128);
        roomMark(z, 3, 32, 0xff800000);
        Due.same("add", 1, z.addText("order q 1;"));
        mark(z, 1, 32, 0x80000000);
        Due.same("its WORD", 0x80000000L, z.word(1));
        Due.same("it is read", 1, z.reads(0x80000000L, 2));
    }

    private static void rows() {
        Due.sentence("FIELDS stand behind the MARK, in some row of them, none between. A FIELD's PLACE there is how many bits are behind it.");
        Desk x = Desk.laid("field a 1;field b 2;field c 3;field d 4;field e 5;field f 6;order p 1:a,b,c,d,e,f;order q 1:f,e,d,c,b,a;", 16, 4);
        places(x, 0, 20, 18, 15, 11, 6, 0);
        Due.sentence("that by which the fewest FIELDS come to a PLACE that they have in no ORDER ahead");
        places(x, 1, 0, 6, 11, 15, 18, 20);
        Desk y = Desk.laid("field a 3;field b 2;field c 4;order p 1:a;order q 1:a,c;order r 1:b;order s 1:b,a;", 16, 4);
        places(y, 0, 0);
        places(y, 1, 0, 3);
        places(y, 2, 0);
        // a or b stays at 0, the other comes to a new PLACE: alike
        places(y, 3, 3, 0);
        Due.same("PLACES of a", 1, y.field(0, 2));
        Due.same("PLACES of b", 2, y.field(1, 2));
        Due.same("PLACES of c", 1, y.field(2, 2));
        // an ORDER behind does not count
        Desk z = Desk.laid("field a 3;field b 2;order p 1:a,b;order q 1:a;order r 1:b,a;", 16, 3);
        places(z, 0, 2, 0);
        places(z, 1, 0);
        places(z, 2, 0, 2);
        Due.sentence("of alike ones the first by which FIELD stands first (as the ORDER tells them), then which second, and so on.");
        Desk v = Desk.laid("field a 3;field b 1;field c 1;order p 1:a;order q 1:b,c,a;order r 1:c;", 16, 3);
        places(v, 1, 4, 3, 0);
        Desk w = Desk.laid("field a 3;field b 1;field c 1;order p 1:a;order q 1:c,b,a;order r 1:c;", 16, 3);
        places(w, 1, 4, 3, 0);
        Desk u = Desk.laid("field a 3;field b 2;field c 4;order p 1:a,b;order q 1:c,a;", 16, 2);
        places(u, 1, 3, 0);
        Desk t = Desk.laid("field a 3;field b 2;field c 2;order p 1:a,b;order q 1:c,a;", 16, 2);
        places(t, 1, 0, 2);
        Due.same("an ORDER without FIELDS has no PLACE", -1, Desk.laid("order p 1;", 8, 1).order(0, 10));
    }

    private static void firstRoom() {
        Due.sentence("AN ORDER THAT COMES is laid into the first room that has a free MARK and at least its BITS: LONG");
        Desk x = Desk.laid("field a 4;room 1 3;room 1 5;room 2 4;", 8, 0);
        roomMark(x, 1, 11, 0);
        roomMark(x, 2, 12, 2);
        roomMark(x, 0, 13, 8);
        Due.same("the first with more than its BITS", 0, x.addText("order p 1:a;"));
        mark(x, 0, 12, 0);
        Due.same("that one is full; the next has as many", 1, x.addText("order q 1:a;"));
        mark(x, 1, 12, 2);
        Due.same("the next MARK", 2, x.addText("order r 1:a;"));
        mark(x, 2, 12, 3);
        Due.same("one BIT more than the free room has", -2, x.addText("order s 1:a;"));
        Due.same("taken", 0, x.room(0, 2));
        Due.same("one with fewer BITS", 3, x.addText("order s 1;"));
        Due.sentence("its MARK is the room's first free one, and as many 0s behind as it has fewer BITS");
        mark(x, 3, 16, 64);
        Due.same("all are full", -2, x.addText("order t 1;"));
        units(x, 2, 2, 2, 2);
        for (int k = 0; k < 4; k++) {
            Due.same("ORDER " + k + " came", 1, x.order(k, 6));
        }
        Due.same("taken of room 0", 1, x.room(0, 2));
        Due.same("taken of room 1", 1, x.room(1, 2));
        Due.same("taken of room 2", 2, x.room(2, 2));
        Due.same("free", 0, x.count(7));
        Desk none = Desk.laid("order p 1;", 8, 1);
        Due.same("without a room", -2, none.addText("order q 1;"));
        Desk y = Desk.laid("field a 16;field b 8;field c 1;room 1 24;room 1 0;", 16, 0);
        Due.same("24 BITS", 0, y.addText("order p 1:a,b;"));
        mark(y, 0, 8, 0);
        Due.same("one BIT for a room of none", -2, y.addText("order q 1:c;"));
        Due.same("no BIT for a room of none", 1, y.addText("order q 1;"));
        mark(y, 1, 32, 1 << 24);
        Desk z = Desk.laid("field a 8;field b 7;room 1 15;", 8, 0);
        Due.same("a MARK of one bit", 0, z.addText("order p 1:a,b;"));
        mark(z, 0, 1, 0);
        Desk last = Desk.laid("room 64 0;", 8, 0);
        for (int k = 0; k < 40; k++) {
            Due.same("one that comes", k, last.addText("order o" + k + " 0;"));
        }
        mark(last, 39, 16, 39);
        Due.same("taken", 40, last.room(0, 2));
        roomMark(last, 0, 16, 0);
    }

    private static void nothingElseChanges() {
        Due.sentence("its FIELDS' row is chosen as the last one's. Nothing else changes.");
        Desk x = Desk.laid("field a 3;field b 2;order p 4:a;order q 3:b,a;room 3 9;room 1 1;", 8, 7);
        places(x, 1, 3, 0);
        String[] ahead = new String[2];
        for (int k = 0; k < 2; k++) {
            ahead[k] = standing(x, k);
        }
        String rooms = x.room(0, 3) + " " + x.room(0, 4) + " " + x.room(1, 2) + " " + x.room(1, 3) + " " + x.room(1, 4);
        Due.same("add", 2, x.addText("order r 2:a,b;"));
        places(x, 2, 0, 3);
        Due.same("PLACES of a", 1, x.field(0, 2));
        Due.same("PLACES of b", 1, x.field(1, 2));
        Due.same("add", 3, x.addText("order s 2:b;"));
        places(x, 3, 0);
        Due.same("PLACES of b", 2, x.field(1, 2));
        Due.same("add", 4, x.addText("order t 2:a,b;"));
        // b is at 0 in s, so a may be first; alike with b first
        places(x, 4, 0, 3);
        for (int k = 0; k < 2; k++) {
            Due.same("ORDER " + k, ahead[k], standing(x, k));
        }
        Due.same("rooms", rooms, x.room(0, 3) + " " + x.room(0, 4) + " " + x.room(1, 2) + " " + x.room(1, 3) + " " + x.room(1, 4));
        Due.same("COST", 7 + 12, x.count(6));
        Due.same("SHORT ORDERS", 2, x.count(5));
        Due.same("FIELDS", 2, x.count(0));
        Due.same("rooms", 2, x.count(3));
    }

    private static String standing(Desk x, int k) {
        StringBuilder all = new StringBuilder();
        for (int what : new int[] {0, 1, 2, 3, 4, 5, 6, 10, 11, 20, 21}) {
            all.append(x.order(k, what)).append(' ');
        }
        return all.append(x.word(k)).toString();
    }

    private static void laidAgain() {
        Due.sentence("(Laid again, it is an ORDER like others, and all rooms are free.)");
        Desk x = Desk.laid("field a 4;order r 3:a;room 2 4;", 8, 3);
        Due.same("add", 1, x.addText("order s 7:a;"));
        Due.same("add", 2, x.addText("order t 1;"));
        Due.same("COST", 3 + 14 + 2, x.count(6));
        Due.same("laid again", 11, x.lay(8));
        units(x, 1, 1, 1);
        mark(x, 0, 4, 0);
        mark(x, 1, 4, 1);
        mark(x, 2, 8, 32);
        roomMark(x, 0, 12, 33 << 4);
        for (int k = 0; k < 3; k++) {
            Due.same("ORDER " + k + " came since", 0, x.order(k, 6));
        }
        Due.same("taken", 0, x.room(0, 2));
        Due.same("free", 2, x.count(7));
        Due.same("ORDERS", 3, x.count(1));
        Due.same("SHORT ORDERS", 3, x.count(5));
        Due.same("one that comes", 3, x.addText("order u 1;"));
        Due.same("it came", 1, x.order(3, 6));
        Due.same("by 16", 12, x.lay(16));
        Due.same("it came before", 0, x.order(3, 6));
        Due.same("free", 2, x.count(7));
    }

    // ---- III. READING and THE DECODER

    private static void asManyUnits() {
        Due.sentence("if there are as many UNITS as its WORD has (those behind it are not looked at)");
        for (int u = 8; u <= 16; u += 8) {
            Desk x = Desk.laid("field a 7;field b 8;order p 9:a;order q 1:b;", u, u == 8 ? 11 : 10);
            long p = (long) x.order(0, 5) << 7 | 93;
            Due.same("SHORT, one UNIT", 0, x.reads(p, 1));
            Due.same("its number", 93, x.got(0));
            for (long behind : new long[] {0, 1, 0x7f, (1L << u) - 1}) {
                Due.same("SHORT, two UNITS", 0, x.reads(p << u | behind, 2));
                Due.same("its number", 93, x.got(0));
            }
        }
        Desk y = Desk.laid("field a 8;field b 7;order q 1:a,b;", 8, 2);
        Due.same("LONG, one UNIT that has all of its MARK", -1, y.reads(0, 1));
        Due.same("LONG, one UNIT", -1, y.reads(0x7f, 1));
        Due.same("nothing was got", -1, y.got(0));
        Due.same("LONG, two UNITS", 0, y.reads(0x7fff, 2));
        Due.same("its first number", 255, y.got(0));
        Due.same("its second number", 127, y.got(1));
        Desk z = Desk.laid("field a 16;order q 1:a;", 16, 2);
        Due.same("LONG, one UNIT of 16", -1, z.reads(0, 1));
        Due.same("LONG, two UNITS of 16", 0, z.reads(0xffff, 2));
        Due.same("its number", 65535, z.got(0));
        Due.same("no MARK", -1, z.reads(0x10000, 2));
        Due.sentence("the ORDER whose MARK they begin with");
        Desk v = Desk.laid("field a 2;order p 1:a;order q 1:a;order r 1;room 1 2;", 8, 3);
        Due.same("the first MARK", 0, v.reads(3, 1));
        Due.same("the next MARK", 1, v.reads(4, 1));
        Due.same("its last WORD", 1, v.reads(7, 1));
        Due.same("the last MARK", 2, v.reads(8, 1));
        Due.same("a free MARK", -1, v.reads(9, 1));
        Due.same("a free MARK", -1, v.reads(9 << 8, 2));
        Due.same("none", -1, v.reads(255, 1));
        Due.same("add", 3, v.addText("order s 1:a;"));
        Due.same("a MARK that was free", 3, v.reads(9 << 8 | 3, 2));
        Due.same("behind it", -1, v.reads(9 << 8 | 4, 2));
    }

    private static void firstAlias() {
        Due.sentence("and the first ALIAS of it whose held FIELDS have their numbers");
        Desk x = Desk.laid("field a 2;field b 2;order p 1:a,b;order q 1:a,b;alias l=q,b 1;alias m=p,b 1,a 2;alias n=p,b 1;alias o=p,a 3;", 8, 2);
        int[][] due = {{2, 1, 1}, {1, 1, 2}, {3, 1, 2}, {3, 2, 3}, {2, 2, -1}, {0, 0, -1}};
        for (int[] row : due) {
            Due.same("give", true, x.give(0, row[0]));
            Due.same("give", true, x.give(1, row[1]));
            Due.same("reads", 0, x.reads(x.word(0), 1));
            Due.same("ALIAS of " + row[0] + ", " + row[1], row[2], x.got(-1));
        }
        Due.same("reads", 1, x.reads(x.word(1) | 1L << x.order(1, 11), 1));
        Due.same("an ALIAS of another ORDER", 0, x.got(-1));
        Desk y = Desk.laid("field a 2;order p 1:a;alias l=p;alias m=p,a 1;", 8, 1);
        Due.same("reads", 0, y.reads(1, 1));
        Due.same("an ALIAS that holds none", 0, y.got(-1));
        Desk z = Desk.laid("order p 1;order q 1;alias m=q;", 8, 2);
        Due.same("reads", 0, z.reads(0, 1));
        Due.same("no ALIAS", -1, z.got(-1));
        Due.same("reads", 1, z.reads(1, 1));
        Due.same("an ALIAS of an ORDER without FIELDS", 0, z.got(-1));
        Desk six = Desk.laid("field a 1;field b 1;field c 1;field d 1;field e 1;field f 16;order p 1:a,b,c,d,e,f;"
            + "alias l=p,a 1,b 1,c 1,d 1,e 1,f 65535;alias m=p,f 65535;", 16, 2);
        Due.same("reads", 0, six.reads((1 << 21) - 1, 2));
        Due.same("an ALIAS that holds six", 0, six.got(-1));
        Due.same("reads", 0, six.reads((1 << 20) - 1, 2));
        Due.same("all but one", 1, six.got(-1));
    }

    private static void nothingIsAsked() {
        Due.sentence("Of MARKS that are all one, or all of rooms, nothing is asked: an end.");
        tree(Desk.laid("", 8, 0), 0, 0, 0);
        Desk one = Desk.laid("order p 1;", 8, 1);
        tree(one, 0, 0, 1);
        ahead(one, 0);
        tree(Desk.laid("room 1 3;", 8, 0), 0, 0, 1);
        tree(Desk.laid("room 64 3;", 16, 0), 0, 0, 1);
        tree(Desk.laid("room 5 3;room 6 4;room 1 24;room 64 0;", 16, 0), 0, 0, 1);
        Desk two = Desk.laid("order p 1;order q 1;", 8, 2);
        tree(two, 1, 1, 2);
        ahead(two, 1, 1);
        Desk roomAndOne = Desk.laid("order p 1;room 1 8;", 8, 1);
        tree(roomAndOne, 1, 1, 2);
        ahead(roomAndOne, 1);
        // MARKS 0 and 1; a MARK of p parts the rooms on both its sides
        Desk between = Desk.laid("room 1 15;order p 1;room 1 0;", 8, 1);
        tree(between, 2, 2, 3);
        ahead(between, 2);
        Due.sentence("made of all MARKS: of ORDERS, and free ones of rooms");
        Desk x = Desk.laid("room 2 0;", 16, 0);
        Due.same("add", 0, x.addText("order p 1;"));
        tree(x, 1, 1, 2);
        ahead(x, 1);
        Due.same("add", 1, x.addText("order q 1;"));
        tree(x, 1, 1, 2);
        ahead(x, 1, 1);
        Desk y = Desk.laid("room 1 0;", 8, 0);
        tree(y, 0, 0, 1);
        Due.same("add", 0, y.addText("order p 1;"));
        tree(y, 0, 0, 1);
        ahead(y, 0);
        Due.same("add", -2, y.addText("order q 1;"));
        tree(y, 0, 0, 1);
        Due.same("laid again", 1, y.lay(8));
        tree(y, 1, 1, 2);
    }

    private static void bitThatIsAsked() {
        Due.sentence("Else the bit is asked that each of these MARKS has");
        // 0, 10000000, 10000001
        Desk x = Desk.laid("field a 7;order p 1:a;order q 1;order r 1;", 8, 3);
        tree(x, 2, 2, 3);
        ahead(x, 1, 2, 2);
        Due.sentence("by which the greater of both sides has the fewest MARKS, and no side none");
        // 00, 010, 011, 10000000: bit 0 parts 3 and 1, bit 1 parts 2 and 2
        Desk y = Desk.laid("field a 6;field b 5;order p 9:a;order q 9:b;order r 9:b;order s 9;", 8, 36);
        tree(y, 3, 2, 4);
        ahead(y, 2, 2, 2, 2);
        // 0 .. 4 of eight bits: bit 5 parts 4 and 1, bits 6 and 7 part 3 and 2: bit 6, so that 0, 1, 4 and 2, 3 are together
        Desk five = Desk.laid("order p 1;order q 1;order r 1;order s 1;order t 1;", 8, 5);
        tree(five, 4, 3, 5);
        ahead(five, 3, 3, 2, 2, 2);
        Due.sentence("of alike ones the first");
        // 0, 1 of ORDERS, 2, 3 of a room: by bit 6 the room's are together, by bit 7 they are not
        Desk z = Desk.laid("order p 1;order q 1;room 2 8;", 8, 2);
        tree(z, 2, 2, 3);
        ahead(z, 2, 2);
    }

    /**
     * MARKS 0, 10, 110 .. of 1 to 27 bits, and 32 MARKS of 32 bits, which take 1 together: bits are asked one
     * by one, up to the last bit of a WORD.
     */
    private static void deepestTree() {
        Due.sentence("then each side likewise. (There is always such a bit, as none is the beginning of another.)");
        StringBuilder text = new StringBuilder("field a 8;field b 4;field c 2;field d 1;");
        for (int k = 0; k < 24; k++) {
            text.append("order o").append(k).append(k < 16 ? " 1" : " 0").append(fieldsOf(15 - k % 16)).append(";");
        }
        Desk x = Desk.laid(text + "room 1 7;room 1 6;room 1 5;room 32 0;", 16, 16);
        tree(x, 24, 24, 25);
        for (int k = 24; k < 40; k++) {
            Due.same("add", k, x.addText("order o" + k + " 0" + fieldsOf(k < 27 ? 31 - k : 0) + ";"));
        }
        for (int k = 0; k < 27; k++) {
            mark(x, k, k + 1, (int) ((1L << k + 1) - 2));
            Due.same("TESTS ahead of ORDER " + k, k + 1, x.order(k, 7));
        }
        for (int k = 27; k < 40; k++) {
            mark(x, k, 32, k - 27 - 32);
            Due.same("TESTS ahead of ORDER " + k, 32, x.order(k, 7));
        }
        tree(x, 42, 32, 43);
        Due.same("free", 19, x.count(7));
    }

    /** 40 MARKS of 16 bits, and 256 free ones behind 0000000000101000: bit 10, then bit 12, parts these from all ORDERS. */
    private static void mostMarks() {
        Due.sentence("made of all MARKS: of ORDERS, and free ones of rooms");
        StringBuilder text = new StringBuilder("room 64 0;room 64 0;room 64 0;room 64 0;");
        for (int k = 0; k < 24; k++) {
            text.append("order o").append(k).append(" 1;");
        }
        Desk x = Desk.laid(text.toString(), 16, 24);
        for (int k = 24; k < 40; k++) {
            Due.same("add", k, x.addText("order o" + k + " 1;"));
        }
        Due.same("free", 240, x.count(7));
        Due.same("laid again", 40, x.lay(16));
        Due.same("free", 256, x.count(7));
        roomMark(x, 3, 32, (40 << 16) + 192);
        tree(x, 40, 6, 41);
        for (int k = 0; k < 40; k++) {
            Due.same("TESTS ahead of ORDER " + k, k < 32 ? 6 : 5, x.order(k, 7));
        }
    }

    private static String fieldsOf(int bits) {
        String all = ((bits & 8) != 0 ? ",a" : "") + ((bits & 4) != 0 ? ",b" : "")
            + ((bits & 2) != 0 ? ",c" : "") + ((bits & 1) != 0 ? ",d" : "");
        return all.isEmpty() ? "" : ":" + all.substring(1);
    }

    public static void main(String[] args) {
        oneBitAtLeast();
        roomsMarks();
        oneAtMost();
        shortOnesWithinOne();
        leastCost();
        nothingIsLaid();
        marksInARow();
        marksOfThirtyTwoBits();
        rows();
        firstRoom();
        nothingElseChanges();
        laidAgain();
        asManyUnits();
        firstAlias();
        nothingIsAsked();
        bitThatIsAsked();
        deepestTree();
        mostMarks();
        Due.end("all of parts II and III is as due");
    }
}
