import java.util.ArrayList;
import java.util.List;

/** The document's Terms, part I: each sentence with the last that is taken and the first that is refused. */
public final class WordMintTextEdges {
    private static final String[] QUOTED = {"field", "order", "alias", "room"};
    private static final String BLANKS = "\t\n\r ";

    private static void good(String text) {
        Desk.told(text);
    }

    private static void fault(int number, int place, String text) {
        Desk x = Desk.told("field keep 3; order stay 7: keep;");
        Due.same("read of <" + text + ">", number, x.readText(text));
        Due.same("place in <" + text + ">", place, x.place());
        Due.same("bytes on the tape behind <" + text + ">", 0, x.count(8));
        Due.same("FIELDS behind <" + text + ">", 1, x.count(0));
        Due.same("USE behind <" + text + ">", 7, x.order(0, 0));
    }

    /** The FAULT is at the byte where the mark ^ stands, which is no part of the text. */
    private static void fault(int number, String marked) {
        fault(number, marked.indexOf('^'), marked.replace("^", ""));
    }

    /** Each # becomes the number. */
    private static String numbered(String part, int from, int to) {
        StringBuilder all = new StringBuilder();
        for (int i = from; i < to; i++) {
            all.append(part.replace("#", Integer.toString(i)));
        }
        return all.toString();
    }

    private static boolean isBlank(char c) {
        return BLANKS.indexOf(c) >= 0;
    }

    private static boolean isDigit(char c) {
        return c >= '0' && c <= '9';
    }

    private static boolean isLetter(char c) {
        return c >= 'a' && c <= 'z';
    }

    private static void textSize() {
        Due.sentence("THE TEXT, 3,000 bytes at most.");
        good(" ".repeat(2990) + "field a 1;");
        fault(1, 3000, " ".repeat(2991) + "field a 1");
        fault(1, 2999, " ".repeat(2989) + "field a 1;,");
        good("field a 1;" + "\n".repeat(2990));
    }

    private static void blanks() {
        Due.sentence("with blanks (9, 10, 13, 32) between or not");
        for (char c = 0; c < 256; c++) {
            String text = "field" + c + "a 1;";
            if (isBlank(c)) {
                good(text);
                good(c + "field" + c + "a" + c + "1" + c + ";" + c);
                good("room 1" + c + "1;");
            } else if (isLetter(c) || isDigit(c)) {
                fault(1, 0, text);
            } else {
                fault(1, 5, text);
                fault(1, 10, "field a 1;" + c);
                fault(1, 0, c + "field a 1;");
            }
        }
        good(" \t\r\n\n  field \r\n a \t\t 1 \n\n ; \t ");
        good("field a 1;order o 2:a;alias p=o,a 1;room 1 2;");
        good("field a1 1;order o1 2:a1;alias p1=o1,a1 1;room 1 2;");
    }

    private static void longest() {
        Due.sentence("TOKENS, the longest that can be");
        fault(1, "field a1^;");
        fault(1, "room 12^;");
        fault(1, "^room1 2;");
        fault(1, "^fielda 1;");
        fault(1, "order o1^;");
        fault(1, "order o 1^o;");
        fault(1, "field a 1^room 1 2;");
        Desk x = Desk.told("room 12 3;field ab 4;");
        Due.same("both digits are one NUMBER", 12, x.room(0, 0));
        Due.same("the room's second NUMBER", 3, x.room(0, 1));
    }

    private static void nameBytes() {
        Due.sentence("NAMES (a letter a .. z, then letters and digits");
        for (char c = 0; c < 256; c++) {
            String first = "field " + c + " 1;";
            String second = "field a" + c + " 1;";
            if (isLetter(c)) {
                good(first);
                good(second);
            } else if (isBlank(c)) {
                fault(1, 8, first);
                good(second);
            } else if (isDigit(c)) {
                fault(1, 6, first);
                good(second);
            } else {
                fault(1, 6, first);
                fault(1, 7, second);
            }
        }
        good("field a 1;field z 1;field a0 1;field a9 1;field aa 1;field az 1;field z9z9z9z9 1;");
    }

    private static void nameLength() {
        Due.sentence("at most 8");
        good("field a 1;field abcdefgh 1;field a2345678 1;");
        good("field abcdefgh 1;order abcdefgh 1:abcdefgh;alias bcdefghi=abcdefgh,abcdefgh 1;");
        fault(1, "field ^abcdefghi 1;");
        fault(1, "field ^a23456789 1;");
        fault(1, "order ^abcdefghi 1;");
        fault(1, "field a 1;order o 1:^abcdefghi;");
        fault(1, "field a 1;order o 1:a,^abcdefghi;");
        fault(1, "alias ^abcdefghi=o;");
        fault(1, "order o 1;alias p=^abcdefghi;");
        fault(1, "field a 1;order o 1:a;alias p=o,^abcdefghi 1;");
        fault(1, "field ^" + "a".repeat(100) + " 1;");
        fault(1, "^" + "a".repeat(3000));
        // all eight count
        good("field abcdefgh 1;field abcdefgi 1;field abcdefg 1;field bbcdefgh 1;field abcdefg0 1;");
        fault(3, "field abcdefgh 1;field ^abcdefgh 1;");
    }

    private static void quotedWords() {
        Due.sentence("none of the words in quotes");
        for (String word : QUOTED) {
            fault(1, "field ^" + word + " 1;");
            fault(1, "order ^" + word + " 1;");
            fault(1, "field a 1;order o 1:^" + word + ";");
            fault(1, "field a 1;order o 1:a,^" + word + ";");
            fault(1, "order o 1;alias ^" + word + "=o;");
            fault(1, "order o 1;alias p=^" + word + ";");
            fault(1, "field a 1;order o 1:a;alias p=o,^" + word + " 1;");
            for (String near : new String[] {word + "s", word + "1", "a" + word, word.substring(1), word.substring(0, 3)}) {
                good("field " + near + " 1;order " + near + " 1:" + near + ";alias p=" + near + "," + near + " 1;");
            }
            for (int i = 0; i < word.length(); i++) {
                String other = word.substring(0, i) + "x" + word.substring(i + 1);
                good("field " + other + " 1;order " + other + " 1:" + other + ";");
                fault(1, 0, other + " a 1;");
            }
        }
    }

    private static void numberBytes() {
        Due.sentence("NUMBERS (1 to 5 digits), SIGNS : ; , =");
        for (char c = 0; c < 256; c++) {
            String text = "field a 1" + c + ";";
            if (isBlank(c) || isDigit(c) && c <= '6') {
                good(text);
            } else if (isDigit(c)) {
                fault(5, 8, text);
            } else if (c == ';') {
                fault(1, 10, text);
            } else {
                fault(1, 9, text);
            }
        }
        fault(1, "field a 1^.");
        fault(1, "field a 1;^.");
        fault(1, "field a ^-1;");
        fault(1, "field a ^+1;");
    }

    private static void numberLength() {
        Due.sentence("NUMBERS (1 to 5 digits)");
        good("field a 00016;order o 10000:a;alias p=o,a 65535;room 00064 00024;");
        good("order o 0;order p 00000;");
        fault(1, "field a ^000016;");
        fault(1, "order o ^000001;");
        fault(1, "order o ^100000;");
        fault(1, "room ^000001 1;");
        fault(1, "room 1 ^000001;");
        fault(1, "field a 1;order o 1:a;alias p=o,a ^000001;");
        fault(1, "order o ^" + "1".repeat(200) + ";");
        fault(1, "order o ^4294967297;");
        Desk x = Desk.told("order o 00012;order p 90;order q 10000;");
        Due.same("USE 00012", 12, x.order(0, 0));
        Due.same("USE 90", 90, x.order(1, 0));
        Due.same("USE 10000", 10000, x.order(2, 0));
    }

    /** Of each beginning of a text, what may come next; NAME and NUMBER as x and 1, the text's end as $. */
    private static final String[][] GOES_ON = {
        {"", "field order alias room $"},
        {"field", "x"},
        {"field a", "1"},
        {"field a 1", ";"},
        {"field a 1;", "field order alias room $"},
        {"order", "x"},
        {"order o", "1"},
        {"order o 1", ": ;"},
        {"order o 1;", "field order alias room $"},
        {"order o 1:", "x"},
        {"order o 1:a", ", ;"},
        {"order o 1:a,", "x"},
        {"order o 1:a,b", ", ;"},
        {"order o 1:a;", "field order alias room $"},
        {"alias", "x"},
        {"alias p", "="},
        {"alias p=", "x"},
        {"alias p=o", ", ;"},
        {"alias p=o;", "field order alias room $"},
        {"alias p=o,", "x"},
        {"alias p=o,a", "1"},
        {"alias p=o,a 1", ", ;"},
        {"alias p=o,a 1,", "x"},
        {"alias p=o,a 1,b", "1"},
        {"alias p=o,a 1;", "field order alias room $"},
        {"room", "1"},
        {"room 1", "1"},
        {"room 1 2", ";"},
        {"room 1 2;", "field order alias room $"},
    };

    private static final String[] NEXT = {"field", "order", "alias", "room", "x", "1", ":", ";", ",", "=",
        ".", "X", "-", "abcdefghi", "123456", "\u0000", "\u00e4", "$"};

    private static void grammar() {
        Due.sentence("1 SYNTAX: a TOKEN, or what is none, with which no text goes on.");
        for (String[] row : GOES_ON) {
            for (String next : NEXT) {
                String text = row[0] + " " + (next.equals("$") ? "" : next);
                int place = row[0].length() + 1;
                if ((" " + row[1] + " ").contains(" " + next + " ")) {
                    // it may have a FAULT of another kind, or one at its end
                    Desk x = new Desk();
                    boolean here = x.readText(text) == 1 && x.place() == place;
                    Due.same("SYNTAX at the last TOKEN of <" + text + ">", false, here);
                } else {
                    fault(1, place, text);
                }
            }
        }
    }

    private static void places() {
        Due.sentence("the first by its place (a byte; the text's end: its length)");
        fault(1, "field^");
        fault(1, "field \n\t ^");
        fault(1, "  ^;");
        fault(1, "\n\n^;;");
        fault(1, "field a 1; room^");
        fault(1, "^;field a 1");
        fault(1, "field a 1;^%$;");
        fault(4, "order o 1:^a;field b 0;field b 1;");
        fault(5, "field b ^0;field b 1;order o 1:a;");
        fault(3, "field b 1;field ^b 0;order o 1:a;");
        fault(5, "field a 1;room ^0 25;");
        fault(3, "order o 1;order ^o 10001:x;");
        fault(5, "order o ^10001:x;");
        fault(4, "field a 1;order o 1:^x,a,a;");
        fault(3, "field a 1;order o 1:a,^a,x;");
        fault(4, "field a 1;order o 1:a;alias p=o,^x 2,a 2;");
        fault(5, "field a 1;order o 1:a;alias p=o,a ^2,x 2,a 1;");
        fault(3, "order o 1;alias ^o=x;");
    }

    private static void leastOfOnePlace() {
        Due.sentence("of one place the least");
        fault(3, "field a 16;field b 9;order o 1;order ^o 1:a,b;");
        fault(3, "field a 16;field b 9;order n 1;alias o=n;order ^o 1:a,b;");
        fault(5, "field a 16;field b 9;order o 1;order ^p 1:a,b;");
        String full = sixHundredTokens();
        fault(1, full + "^;");
        fault(1, full + "^x");
        fault(1, full + "^123456");
        fault(2, full + "^room");
    }

    /** 7 fields: 28 TOKENS; 24 orders of six FIELDS: 384; 8 aliases of six: 184; a room: 4. */
    private static String sixHundredTokens() {
        return sixHundredButFour() + "room 1 1;";
    }

    private static String sixHundredButFour() {
        return numbered("field f# 1;", 0, 7) + numbered("order o# 1:f0,f1,f2,f3,f4,f5;", 0, 24)
            + numbered("alias a#=o#,f0 1,f1 0,f2 1,f3 0,f4 1,f5 0;", 0, 8);
    }

    private static void tokensInAll() {
        Due.sentence("2 ROOM: a 601st TOKEN");
        String full = sixHundredTokens();
        Desk x = Desk.told(full);
        Due.same("rooms of 600 TOKENS", 1, x.count(3));
        Due.same("ORDERS of 600 TOKENS", 24, x.count(1));
        good(full + " \n ");
        fault(2, full + "^field f7 1;");
        fault(2, full + " \n^alias b=o1;");
        fault(2, full + "^room 1 1;");
        fault(2, full + "^room ;;;%");
        // the 601st may be any TOKEN of a TELL
        String most = sixHundredButFour();
        fault(2, most + "alias b=o1^;");
        fault(2, most + "alias b=o1^,f0 1;");
        fault(1, most + "alias b=o1^");
        fault(1, most + "alias b=o1 ^f0 1;");
        // FAULTS of the meaning stand behind it
        fault(2, full.replace("room 1 1;", "room 0 1;") + "^field f7 1;");
    }

    private static void tellsInAll() {
        Due.sentence("a 13th field, 25th order, 17th alias, 5th room (at that word)");
        String fields = numbered("field f# 1;", 0, 12);
        String orders = numbered("order o# 1;", 0, 24);
        String aliases = numbered("alias a#=o#;", 0, 16);
        String rooms = numbered("room 1 #;", 0, 4);
        Desk x = Desk.told(rooms + fields + orders + aliases);
        Due.same("FIELDS", 12, x.count(0));
        Due.same("ORDERS", 24, x.count(1));
        Due.same("ALIASES", 16, x.count(2));
        Due.same("rooms", 4, x.count(3));
        // a text has as many again, whatever was told ahead
        Due.same("the same again", 0, x.readText(rooms + fields + orders + aliases));
        Due.same("and others", 0, x.readText(aliasesOfSix()));
        Due.same("the last FIELD of the last ALIAS", 5, x.alias(15, 15));
        Due.same("its number", 15, x.alias(15, 25));
        Due.same("the last of the one ahead", 14, x.alias(14, 25));
        Due.same("its first", 9, x.alias(14, 20));
        fault(2, fields + " ^field g 1;");
        fault(2, orders + " ^order g 1;");
        fault(2, orders + aliases + " ^alias g=o0;");
        fault(2, rooms + " ^room 1 1;");
        fault(2, fields + "^field");
        fault(2, orders + "^order");
        fault(2, orders + aliases + "^alias");
        fault(2, rooms + "^room");
        fault(2, fields + "^field f0 0;");
        fault(2, fields + orders + aliases + rooms + "\n^room 1 1;");
        fault(2, rooms + fields + orders + aliases + "\n^alias g=o0;");
        fault(2, rooms + aliases + fields + orders + "\n^order g 1;");
        fault(2, rooms + aliases + orders + fields + "\n^field g 1;");
        fault(1, fields + "^g;field g 1;");
        // by a TELL of its kind alone
        good(fields + "order x 1;room 1 1;alias y=x;");
        good(orders + "field g 1;room 1 1;alias p=o0;");
        // the first by its place, of two kinds
        fault(2, rooms + "^room 1 1;" + fields + "field g 1;");
    }

    /** 16 ALIASES of six FIELDS; the last of the k-th is held to k. */
    private static String aliasesOfSix() {
        return numbered("field f# 4;", 0, 6) + "order o 1:f0,f1,f2,f3,f4,f5;"
            + numbered("alias a#=o,f0 9,f1 8,f2 7,f3 6,f4 5,f5 #;", 0, 16);
    }

    private static void fieldsOfOne() {
        Due.sentence("a 7th FIELD of an order, of an alias (at its NAME)");
        String fields = numbered("field f# 1;", 0, 12);
        String six = "f0,f1,f2,f3,f4,f5";
        String held = "f0 1,f1 1,f2 1,f3 1,f4 1,f5 1";
        Desk x = Desk.told(fields + "order o 1:" + six + ";alias p=o," + held + ";");
        Due.same("FIELDS of an order", 6, x.order(0, 1));
        Due.same("its last", 5, x.order(0, 25));
        Due.same("FIELDS of an alias", 6, x.alias(0, 1));
        Due.same("its last", 5, x.alias(0, 15));
        fault(2, fields + "order o 1:" + six + ", ^f6;");
        fault(2, fields + "order o 1:" + six + ",^f0;");
        fault(2, fields + "order o 1:" + six + ",^zz;");
        fault(2, fields + "order o 1:" + six + ",^f6");
        fault(1, fields + "order o 1:" + six + ",^");
        fault(1, fields + "order o 1:" + six + ",^;");
        fault(1, fields + "order o 1:" + six + ",^room;");
        fault(2, fields + "order o 1:zz,zz,zz,zz,zz,zz,^zz;");
        fault(2, fields + "order o 1:" + six + ";alias p=o," + held + ", ^f6 1;");
        fault(2, fields + "order o 1:" + six + ";alias p=o," + held + ",^f0 1;");
        fault(2, fields + "order o 1:" + six + ";alias p=o," + held + ",^f0");
        fault(2, fields + "order o 1;alias p=zz," + held + ",^f0 1;");
        fault(1, fields + "order o 1:" + six + ";alias p=o," + held + ",^1;");
        // each order and alias has six of its own
        good(fields + "order o 1:" + six + ";order p 1:" + six + ";order q 1:f6,f7,f8,f9,f10,f11;");
        good(fields + "order o 1:" + six + ";alias p=o," + held + ";alias q=o," + held + ";order r 1:" + six + ";");
    }

    private static void shapeAheadOfMeaning() {
        Due.sentence("If there is none, likewise");
        fault(1, "field a 0;field a 17;order o 10001:zz;alias b=c;room 0 25;^,");
        fault(1, "field a 0;room 1 1^");
        fault(2, "field a 0;room 1 1;room 1 1;room 1 1;room 1 1;^room 1 1;");
        fault(2, "order o 1;order o 1:f,f,f,f,f,f,^f;");
        fault(5, "field a ^0;room 1 1;room 1 1;room 1 1;room 1 1;");
    }

    private static void namesTwice() {
        Due.sentence("3 TWICE: a NAME told already (FIELDS; ORDERS and ALIASES together)");
        fault(3, "field a 1;field ^a 1;");
        fault(3, "field a 1;field b 1;field ^a 1;");
        fault(3, "order a 1;order ^a 1;");
        fault(3, "order a 1;order b 1;alias ^a=b;");
        fault(3, "order a 1;alias b=a;alias ^b=a;");
        fault(3, "order a 1;alias b=a;order ^b 1;");
        fault(3, "order a 1;alias ^a=a;");
        good("field a 1;order a 1;alias b=a;");
        good("order a 1;alias b=a;field a 1;field b 1;");
        fault(3, numbered("field f# 1;", 0, 11) + "field ^f10 1;");
        fault(3, numbered("order o# 1;", 0, 23) + "order ^o22 1;");
        fault(3, numbered("order o# 1;", 0, 23) + "alias ^o22=o1;");
        fault(3, "order o 1;" + numbered("alias a#=o;", 0, 15) + "alias ^a14=o;");
        fault(3, "order o 1;" + numbered("alias a#=o;", 0, 16) + "order ^a15 1;");
    }

    /** All NAMES of one or two, each together with each other in some text. */
    private static void namesOnce() {
        Due.sentence("3 TWICE: a NAME told already");
        String letters = "abcdefghijklmnopqrstuvwxyz";
        List<String> names = new ArrayList<>();
        for (char first : letters.toCharArray()) {
            names.add(String.valueOf(first));
            for (char second : (letters + "0123456789").toCharArray()) {
                names.add(String.valueOf(first) + second);
            }
        }
        List<String> dozens = new ArrayList<>();
        for (int from = 0; from < names.size(); from += 12) {
            List<String> dozen = names.subList(from, Math.min(from + 12, names.size()));
            dozens.add("order " + String.join(" 1;order ", dozen) + " 1;");
        }
        for (int i = 0; i < dozens.size(); i++) {
            for (int j = i + 1; j < dozens.size(); j++) {
                good(dozens.get(i) + dozens.get(j));
            }
        }
    }

    private static void fieldsTwice() {
        Due.sentence("a FIELD that its order, its alias has ahead");
        String fields = numbered("field f# 1;", 0, 6);
        fault(3, fields + "order o 1:f0,^f0;");
        fault(3, fields + "order o 1:f0,f1,f2,f3,f4,^f0;");
        fault(3, fields + "order o 1:f0,f1,f2,f3,f4,^f4;");
        good(fields + "order o 1:f0,f1;order p 1:f1,f0;");
        String order = fields + "order o 1:f0,f1,f2,f3,f4,f5;";
        fault(3, order + "alias p=o,f0 1,^f0 0;");
        fault(3, order + "alias p=o,f0 1,^f0 9;");
        fault(3, order + "alias p=o,f5 1,f1 1,f2 1,f3 1,f4 1,^f5 1;");
        good(order + "alias p=o,f0 1;alias q=o,f0 1;");
    }

    private static void namesThatAreNone() {
        Due.sentence("4 NAME: no such FIELD, ORDER, FIELD of the alias's ORDER.");
        fault(4, "order o 1:^a;");
        fault(4, "field b 1;order o 1:b,^a;");
        fault(4, "order a 1;order o 1:^a;");
        fault(4, "order a 1;alias b=a;order o 1:^b;");
        fault(4, "alias p=^o;");
        fault(4, "alias p=^p;");
        fault(4, "field o 1;alias p=^o;");
        fault(4, "order o 1;alias p=o;alias q=^p;");
        fault(4, "order o 1;alias p=^oo;");
        String two = "field a 1;field b 1;order o 1:a;order p 1:b;";
        good(two + "alias q=o,a 1;alias r=p,b 1;");
        fault(4, two + "alias q=o,^b 1;");
        fault(4, two + "alias q=p,^a 1;");
        fault(4, two + "alias q=o,^z 1;");
        fault(4, two + "alias q=o,a 1,^b 1;");
        fault(4, two + "alias q=o,^o 1;");
        fault(4, "field a 1;order o 1;alias q=o,^a 1;");
        Due.sentence("What they name is told ahead.");
        fault(4, "order o 1:^a;field a 1;");
        fault(4, "alias p=^o;order o 1;");
        good("field a 1;order o 1:a;alias p=o;");
        Due.sentence("(Of an order that has a FAULT an alias's FIELDS are not looked for.)");
        fault(4, "field a 1;order o 1:^z,a;alias p=o,a 1,z 1;");
        fault(5, "field a 1;order o ^10001:a;alias p=o,b 1;");
        fault(4, "field a 1;alias p=^o,a 2,a 1;");
    }

    private static void wrongWidths() {
        Due.sentence("5 WRONG: at a NUMBER: a WIDTH that is not 1 .. 16");
        fault(5, "field a ^0;");
        fault(5, "field a ^00000;");
        fault(5, "field a ^17;");
        fault(5, "field a ^00017;");
        fault(5, "field a ^99999;");
        fault(5, "field a 16;field b ^17;");
        for (int width = 1; width <= 16; width++) {
            Due.same("WIDTH", width, Desk.told("field a " + width + ";").field(0, 0));
        }
    }

    private static void wrongUses() {
        Due.sentence("a USE above 10000");
        fault(5, "order a ^10001;");
        fault(5, "order a ^99999;");
        fault(5, "order a 10000;order b ^10001;");
        Desk x = Desk.told("order a 10000;order b 0;order c 9999;");
        Due.same("USE", 10000, x.order(0, 0));
        Due.same("USE", 0, x.order(1, 0));
    }

    private static void wrongRooms() {
        Due.sentence("a room's first one that is not 1 .. 64, its second one above 24");
        fault(5, "room ^0 1;");
        fault(5, "room ^65 1;");
        fault(5, "room ^99999 1;");
        fault(5, "room ^0 25;");
        fault(5, "room ^65 25;");
        fault(5, "room 1 ^25;");
        fault(5, "room 64 ^99999;");
        Desk x = Desk.told("room 1 0;room 64 24;");
        Due.same("ORDERS", 1, x.room(0, 0));
        Due.same("bits", 0, x.room(0, 1));
        Due.same("ORDERS", 64, x.room(1, 0));
        Due.same("bits", 24, x.room(1, 1));
    }

    private static void wrongHeldNumbers() {
        Due.sentence("an alias's that its FIELD's WIDTH does not hold");
        for (int width = 1; width <= 16; width++) {
            String text = "field a " + width + ";field b 16;order o 1:a;alias p=o,a ";
            int above = 1 << width;
            Desk x = Desk.told(text + (above - 1) + ";");
            Due.same("held number", above - 1, x.alias(0, 20));
            good(text + "0;");
            fault(5, text + "^" + above + ";");
            fault(5, text + "^99999;");
        }
        fault(5, "field a 1;field b 2;order o 1:a,b;alias p=o,b 3,a ^2;");
    }

    private static void tooManyBits() {
        Due.sentence("At an order's NAME: its FIELDS (each that is known, once) have more than 24 bits together.");
        String fields = "field a 16;field b 8;field c 1;field d 7;";
        Due.same("BITS", 24, Desk.told(fields + "order o 1:a,b;").order(0, 2));
        Due.same("BITS", 24, Desk.told(fields + "order o 1:c,d,a;").order(0, 2));
        fault(5, fields + "order ^o 1:a,b,c;");
        fault(5, fields + "order ^o 1:c,b,a;");
        fault(5, fields + "order ^o 10001:a,b,c;");
        fault(5, fields + "order n 1:a,b;order  ^o 1:a,b,c,d;");
        fault(5, "field a 16;field b 16;order ^o 1:a,b;");
        Due.sentence("(each that is known");
        fault(4, fields + "order o 1:a,b,^z;");
        fault(4, fields + "order o 1:^z,a,b,c9;");
        fault(4, fields + "order o 1:a,b,^e;field e 1;");
        fault(5, fields + "order ^o 1:z,a,y,b,x,c;");
        Due.sentence(", once)");
        fault(3, fields + "order o 1:a,b,^a,b;");
        fault(3, fields + "order o 1:a,^a,b;");
        fault(5, fields + "order ^o 1:a,a,b,c;");
        // as many as it can have, with 16 bits each
        fault(5, "field a 16;field b 16;field c 16;field d 16;field e 16;field f 16;order ^o 1:a,b,c,d,e,f;");
        // by 24 BITS each, not by those of all orders
        good(fields + "order o 1:a,b;order p 1:a,b;order q 1:b,a;");
    }

    private static void changesNothing() {
        Due.sentence("A text with a FAULT changes nothing.");
        String[] texts = {"field b 2;order q 1:b;%", "field b 2;" + "room 1 1;".repeat(5), "field b 2;order q 1:b,b;",
            "field b 2;order q 1:b;alias z=y;", "field b 2;order q 1:b;room 1 25;", "order r 1;order s 1;x"};
        int[] faults = {1, 2, 3, 4, 5, 1};
        for (int i = 0; i < texts.length; i++) {
            Desk x = Desk.laid("field a 4;order r 3:a;alias z=r,a 9;room 2 6;", 8, 3);
            Due.same("add", 1, x.addText("order s 1:a;"));
            Due.same("give", true, x.give(0, 9));
            Due.same("reads", 0, x.reads(9, 1));
            String state = x.state();
            Due.same("read of <" + texts[i] + ">", faults[i], x.readText(texts[i]));
            Due.same("all behind <" + texts[i] + ">", state, x.state());
            Due.same("one that comes behind <" + texts[i] + ">", 2, x.addText("order t 1:a;"));
        }
        Desk y = Desk.told("field a 4;order r 3:a;alias z=r,a 9;room 2 6;");
        String state = y.state();
        Due.same("read of a FAULT when nothing is laid", 1, y.readText("field"));
        Due.same("all behind it", state, y.state());
        Due.same("lay", 3, y.lay(8));
    }

    private static void isWhatIsTold() {
        Due.sentence("Else it is what is told, and nothing is laid. .. numbered from 0 on.");
        Desk x = Desk.laid("field a 4;field b 2;order r 3:a;order s 3:b;alias z=r,a 9;alias y=s;room 2 6;room 1 1;", 8, 6);
        Due.same("add", 2, x.addText("order t 1;"));
        Due.same("reads", 0, x.reads(9, 1));
        Due.same("a new text", 0, x.readText("room 3 4;field c 5;order u 6:c;alias z=u,c 7;"));
        Due.same("all that is told", "count 1 1 1 1 0 0 0 0, tests -1 -1 -1, got -1 -1 -1"
            + ", order 0: 6 1 5 -1 -1 -1 -1 -1 -1 -1 0 -1 word -1"
            + ", order 1: -1 -1 -1 -1 -1 -1 -1 -1 -1 -1 -1 -1 word -1"
            + ", field 0: 5 1 -1, field 1: -1 -1 -1, alias 0: 0 1 0 7, alias 1: -1 -1 -1 -1"
            + ", room 0: 3 4 -1 -1 -1, room 1: -1 -1 -1 -1 -1", x.state());
        Due.same("nothing is laid", -3, x.addText("order v 1;"));
        Due.same("an empty text", 0, x.readText(""));
        Due.same("nothing is told", "count 0 0 0 0 0 0 0 0, tests -1 -1 -1, got -1 -1 -1"
            + ", order 0: -1 -1 -1 -1 -1 -1 -1 -1 -1 -1 -1 -1 word -1"
            + ", field 0: -1 -1 -1, alias 0: -1 -1 -1 -1, room 0: -1 -1 -1 -1 -1", x.state());
        // NAMES of a text ahead are free
        Due.same("the text ahead again", 0, x.readText("field a 4;order r 3:a;alias t=r;"));
        Due.same("and again", 0, x.readText("field a 4;order r 3:a;alias t=r;"));
        Due.same("a FIELD of the text ahead is none", 4, x.readText("order r 3:a;"));
        Due.same("place", 10, x.place());
    }

    public static void main(String[] args) {
        textSize();
        blanks();
        longest();
        nameBytes();
        nameLength();
        quotedWords();
        numberBytes();
        numberLength();
        grammar();
        places();
        leastOfOnePlace();
        tokensInAll();
        tellsInAll();
        fieldsOfOne();
        shapeAheadOfMeaning();
        namesTwice();
        namesOnce();
        fieldsTwice();
        namesThatAreNone();
        wrongWidths();
        wrongUses();
        wrongRooms();
        wrongHeldNumbers();
        tooManyBits();
        changesNothing();
        isWhatIsTold();
        Due.end("all of part I is as due");
    }
}
