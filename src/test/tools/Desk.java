import java.nio.charset.StandardCharsets;

/**
 * A WordMint as the tests use it: texts are fed as texts, and calls are counted, as the document
 * promises nothing behind the 512th call of an object.
 */
final class Desk {
    static final int MOST_CALLS = 512;

    private final WordMint mint = new WordMint();
    private int calls = 0;
    private int onTape = 0;

    int callsLeft() {
        return MOST_CALLS - calls;
    }

    private WordMint called() {
        calls++;
        if (calls > MOST_CALLS) {
            throw new IllegalStateException("a test makes more than 512 calls of one object");
        }
        return mint;
    }

    int feed(int a, int b, int c, int d, int e) {
        int answer = called().feed(a, b, c, d, e);
        onTape = answer < 0 ? onTape : answer;
        return answer;
    }

    int back(int n) {
        int answer = called().back(n);
        onTape = answer < 0 ? onTape : answer;
        return answer;
    }

    int read() {
        onTape = 0;
        return called().read();
    }

    int place() {
        return called().place();
    }

    int lay(int u) {
        return called().lay(u);
    }

    int add() {
        onTape = 0;
        return called().add();
    }

    int order(int k, int what) {
        return called().order(k, what);
    }

    int field(int k, int what) {
        return called().field(k, what);
    }

    int room(int k, int what) {
        return called().room(k, what);
    }

    int alias(int k, int what) {
        return called().alias(k, what);
    }

    boolean give(int i, int v) {
        return called().give(i, v);
    }

    long word(int k) {
        return called().word(k);
    }

    int reads(long w, int units) {
        return called().reads(w, units);
    }

    int got(int i) {
        return called().got(i);
    }

    int tests(int what) {
        return called().tests(what);
    }

    int count(int what) {
        return called().count(what);
    }

    static int callsToFeed(String text) {
        return (text.length() + 19) / 20 + 1;
    }

    /** Puts the text behind the tape. */
    void feedText(String text) {
        byte[] bytes = text.getBytes(StandardCharsets.ISO_8859_1);
        int there = onTape;
        for (int i = 0; i < bytes.length; i += 20) {
            int[] five = new int[5];
            for (int j = 0; j < 20; j++) {
                int b = i + j < bytes.length ? bytes[i + j] & 255 : 32;
                five[j / 4] = five[j / 4] << 8 | b;
            }
            Due.same("feed", there + i + 20, feed(five[0], five[1], five[2], five[3], five[4]));
        }
        int tooMany = (20 - bytes.length % 20) % 20;
        if (tooMany > 0) {
            Due.same("back", there + bytes.length, back(tooMany));
        }
    }

    int readText(String text) {
        feedText(text);
        return read();
    }

    int addText(String text) {
        feedText(text);
        return add();
    }

    static Desk told(String text) {
        Desk x = new Desk();
        Due.same("read of <" + text + ">", 0, x.readText(text));
        Due.same("place behind <" + text + ">", -1, x.place());
        return x;
    }

    static Desk laid(String text, int u, int cost) {
        Desk x = told(text);
        Due.same("lay(" + u + ") of <" + text + ">", cost, x.lay(u));
        return x;
    }

    /** All that can be asked about small texts, but the tape and place. */
    String state() {
        StringBuilder all = new StringBuilder();
        all.append("count");
        for (int what = 0; what <= 7; what++) {
            all.append(' ').append(count(what));
        }
        all.append(", tests ").append(tests(0)).append(' ').append(tests(1)).append(' ').append(tests(2));
        all.append(", got ").append(got(-1)).append(' ').append(got(0)).append(' ').append(got(1));
        int orders = count(1);
        for (int k = 0; k <= orders; k++) {
            all.append(", order ").append(k).append(':');
            for (int what : new int[] {0, 1, 2, 3, 4, 5, 6, 7, 10, 11, 20, 21}) {
                all.append(' ').append(order(k, what));
            }
            all.append(" word ").append(word(k));
        }
        all.append(stateOfOthers());
        return all.toString();
    }

    private String stateOfOthers() {
        StringBuilder all = new StringBuilder();
        int fields = count(0);
        for (int k = 0; k <= fields; k++) {
            all.append(", field ").append(k).append(": ").append(field(k, 0));
            all.append(' ').append(field(k, 1)).append(' ').append(field(k, 2));
        }
        int aliases = count(2);
        for (int k = 0; k <= aliases; k++) {
            all.append(", alias ").append(k).append(": ").append(alias(k, 0)).append(' ').append(alias(k, 1));
            all.append(' ').append(alias(k, 10)).append(' ').append(alias(k, 20));
        }
        int rooms = count(3);
        for (int k = 0; k <= rooms; k++) {
            all.append(", room ").append(k).append(':');
            for (int what = 0; what <= 4; what++) {
                all.append(' ').append(room(k, what));
            }
        }
        return all.toString();
    }
}
