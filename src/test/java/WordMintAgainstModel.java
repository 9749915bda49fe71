import java.util.ArrayList;
import java.util.Arrays;
import java.util.HashMap;
import java.util.List;
import java.util.Map;
import java.util.Random;
import java.util.TreeSet;
import java.util.regex.Matcher;
import java.util.regex.Pattern;

/**
 * Calls made from fixed seeds, on WordMint and on a model that follows the document's words by the
 * slowest and plainest ways: all ways to be SHORT, all rows, MARKS as texts of 0 and 1.
 */
public final class WordMintAgainstModel {
    private static final Map<String, Integer> seen = new HashMap<>();

    // ---- the model

    private record Token(char kind, int place, String text) {
        int number() {
            return Integer.parseInt(text);
        }
    }

    private record Fault(int place, int number) {}

    private static final class Ord {
        String name;
        int use;
        List<Integer> fields = new ArrayList<>();
        int units;
        String mark;
        int[] places;
        boolean came;
        int depth;
    }

    private static final class Ali {
        String name;
        int order;
        List<int[]> held = new ArrayList<>();
    }

    private static final class Roo {
        int orders;
        int bits;
        int taken;
        List<String> marks = new ArrayList<>();
    }

    private static final class Model {
        String tape = "";
        List<String> fieldNames = new ArrayList<>();
        List<Integer> widths = new ArrayList<>();
        List<Ord> orders = new ArrayList<>();
        List<Ali> aliases = new ArrayList<>();
        List<Roo> rooms = new ArrayList<>();
        int unit = 0;
        int place = -1;
        int[] given = new int[6];
        int[] got = null;
        int gotAlias = -1;
        int asked;
        int deepest;
        int ends;

        static final Pattern TOKEN = Pattern.compile("[a-z][a-z0-9]*|[0-9]+|[:;,=]");
        static final Pattern TEXT = Pattern.compile("(Fnd;|Ond(:n(,n)*)?;|An=n(,nd)*;|Rdd;)*");
        static final Pattern ONE = Pattern.compile("Ond(:n(,n)*)?;");

        /** Tokens up to the first that is none (kind ?), or to the end (kind $). */
        static List<Token> tokens(String text) {
            List<Token> all = new ArrayList<>();
            int at = 0;
            while (true) {
                while (at < text.length() && "\t\n\r ".indexOf(text.charAt(at)) >= 0) {
                    at++;
                }
                if (at == text.length()) {
                    all.add(new Token('$', at, ""));
                    return all;
                }
                Matcher m = TOKEN.matcher(text).region(at, text.length());
                String found = m.lookingAt() ? m.group() : "";
                char kind = kindOf(found);
                all.add(new Token(kind, at, found));
                if (kind == '?') {
                    return all;
                }
                at += found.length();
            }
        }

        static char kindOf(String found) {
            if (found.isEmpty()) {
                return '?';
            }
            char c = found.charAt(0);
            if (Character.isDigit(c)) {
                return found.length() > 5 ? '?' : 'd';
            }
            if (!Character.isLetter(c)) {
                return c;
            }
            switch (found) {
                case "field": return 'F';
                case "order": return 'O';
                case "alias": return 'A';
                case "room": return 'R';
                default: return found.length() > 8 ? '?' : 'n';
            }
        }

        Fault shapeFault(List<Token> tokens, boolean one) {
            Pattern p = one ? ONE : TEXT;
            StringBuilder kinds = new StringBuilder();
            int[] tells = new int[128];
            tells['O'] = one ? orders.size() : 0;
            int members = 0;
            for (int i = 0; i < tokens.size(); i++) {
                Token t = tokens.get(i);
                if (t.kind == '$') {
                    return p.matcher(kinds).matches() ? null : new Fault(t.place, 1);
                }
                String ahead = kinds.toString();
                kinds.append(t.kind);
                Matcher m = p.matcher(kinds);
                if (t.kind == '?' || !(m.matches() || m.hitEnd())) {
                    return new Fault(t.place, 1);
                }
                if (i == 600) {
                    return new Fault(t.place, 2);
                }
                if ("FOAR".indexOf(t.kind) >= 0) {
                    members = 0;
                    tells[t.kind]++;
                    int limit = t.kind == 'F' ? 12 : t.kind == 'O' ? (one ? 40 : 24) : t.kind == 'A' ? 16 : 4;
                    if (tells[t.kind] > limit) {
                        return new Fault(t.place, 2);
                    }
                }
                if (t.kind == 'n' && (ahead.endsWith(":") || ahead.endsWith(","))) {
                    members++;
                    if (members > 6) {
                        return new Fault(t.place, 2);
                    }
                }
            }
            throw new IllegalStateException();
        }

        int orderNamed(String name) {
            for (int k = 0; k < orders.size(); k++) {
                if (orders.get(k).name.equals(name)) {
                    return k;
                }
            }
            return -1;
        }

        boolean isTold(String name) {
            boolean found = orderNamed(name) >= 0;
            for (Ali a : aliases) {
                found |= a.name.equals(name);
            }
            return found;
        }

        /** Tells all that the tokens tell, and adds every FAULT there is to the list. */
        void tell(List<Token> tokens, List<Fault> faults) {
            int i = 0;
            while (tokens.get(i).kind != '$') {
                int end = i;
                while (tokens.get(end).kind != ';') {
                    end++;
                }
                List<Token> one = tokens.subList(i, end);
                switch (tokens.get(i).kind) {
                    case 'F': tellField(one, faults); break;
                    case 'O': tellOrder(one, faults); break;
                    case 'A': tellAlias(one, faults); break;
                    default: tellRoom(one, faults);
                }
                i = end + 1;
            }
        }

        void tellField(List<Token> t, List<Fault> faults) {
            if (fieldNames.contains(t.get(1).text)) {
                faults.add(new Fault(t.get(1).place, 3));
            }
            int width = t.get(2).number();
            if (width < 1 || width > 16) {
                faults.add(new Fault(t.get(2).place, 5));
            }
            fieldNames.add(t.get(1).text);
            widths.add(width);
        }

        void tellOrder(List<Token> t, List<Fault> faults) {
            Ord o = new Ord();
            o.name = t.get(1).text;
            o.use = t.get(2).number();
            if (isTold(o.name)) {
                faults.add(new Fault(t.get(1).place, 3));
            }
            if (o.use > 10000) {
                faults.add(new Fault(t.get(2).place, 5));
            }
            for (int i = 4; i < t.size(); i += 2) {
                int f = fieldNames.indexOf(t.get(i).text);
                if (f < 0) {
                    faults.add(new Fault(t.get(i).place, 4));
                } else if (o.fields.contains(f)) {
                    faults.add(new Fault(t.get(i).place, 3));
                } else {
                    o.fields.add(f);
                }
            }
            if (bits(o) > 24) {
                faults.add(new Fault(t.get(1).place, 5));
            }
            orders.add(o);
        }

        void tellAlias(List<Token> t, List<Fault> faults) {
            Ali a = new Ali();
            a.name = t.get(1).text;
            a.order = orderNamed(t.get(3).text);
            if (isTold(a.name)) {
                faults.add(new Fault(t.get(1).place, 3));
            }
            if (a.order < 0) {
                faults.add(new Fault(t.get(3).place, 4));
            }
            for (int i = 5; i < t.size() && a.order >= 0; i += 3) {
                int f = fieldNames.indexOf(t.get(i).text);
                int number = t.get(i + 1).number();
                boolean twice = false;
                for (int[] h : a.held) {
                    twice |= h[0] == f;
                }
                if (twice) {
                    faults.add(new Fault(t.get(i).place, 3));
                } else if (f < 0 || !orders.get(a.order).fields.contains(f)) {
                    faults.add(new Fault(t.get(i).place, 4));
                    continue;
                }
                if (number >= 1 << widths.get(f)) {
                    faults.add(new Fault(t.get(i + 1).place, 5));
                }
                a.held.add(new int[] {f, number});
            }
            aliases.add(a);
        }

        void tellRoom(List<Token> t, List<Fault> faults) {
            Roo r = new Roo();
            r.orders = t.get(1).number();
            r.bits = t.get(2).number();
            if (r.orders < 1 || r.orders > 64) {
                faults.add(new Fault(t.get(1).place, 5));
            }
            if (r.bits > 24) {
                faults.add(new Fault(t.get(2).place, 5));
            }
            rooms.add(r);
        }

        static Fault first(List<Fault> faults) {
            Fault best = null;
            for (Fault f : faults) {
                if (best == null || f.place < best.place || f.place == best.place && f.number < best.number) {
                    best = f;
                }
            }
            return best;
        }

        int read() {
            List<Token> tokens = tokens(tape);
            tape = "";
            Fault fault = shapeFault(tokens, false);
            Model next = new Model();
            if (fault == null) {
                List<Fault> faults = new ArrayList<>();
                next.tell(tokens, faults);
                fault = first(faults);
            }
            place = fault == null ? -1 : fault.place;
            if (fault != null) {
                return fault.number;
            }
            fieldNames = next.fieldNames;
            widths = next.widths;
            orders = next.orders;
            aliases = next.aliases;
            rooms = next.rooms;
            unit = 0;
            got = null;
            return 0;
        }

        int bits(Ord o) {
            int all = 0;
            for (int f : o.fields) {
                all += widths.get(f);
            }
            return all;
        }

        int lay(int u) {
            if (u != 8 && u != 16) {
                return -1;
            }
            boolean[] shorts = orders.size() <= 9 ? tryAll(u) : pack(u);
            if (shorts == null) {
                return -2;
            }
            unit = u;
            got = null;
            for (int k = 0; k < orders.size(); k++) {
                orders.get(k).units = shorts[k] ? 1 : 2;
                orders.get(k).came = false;
            }
            setMarks();
            for (int k = 0; k < orders.size(); k++) {
                chooseRow(k);
            }
            decode();
            return cost();
        }

        int cost() {
            int all = 0;
            for (Ord o : orders) {
                all += o.use * o.units;
            }
            return all;
        }

        long roomShare(int u) {
            long all = 0;
            for (Roo r : rooms) {
                if (2 * u - r.bits < 1) {
                    return -1;
                }
                all += r.orders * (1L << r.bits);
            }
            return all;
        }

        /** All ways, in the row in which they are to be taken. */
        boolean[] tryAll(int u) {
            int n = orders.size();
            boolean[] best = null;
            long least = Long.MAX_VALUE;
            for (int way = 0; way < 1 << n; way++) {
                long share = roomShare(u);
                boolean can = share >= 0;
                long cost = 0;
                boolean[] shorts = new boolean[n];
                for (int k = 0; k < n; k++) {
                    shorts[k] = (way >> (n - 1 - k) & 1) == 0;
                    int units = shorts[k] ? 1 : 2;
                    int mark = units * u - bits(orders.get(k));
                    can &= mark >= 1;
                    share += mark >= 1 ? 1L << (2 * u - mark) : 0;
                    cost += units * orders.get(k).use;
                }
                if (can && share <= 1L << 2 * u && cost < least) {
                    least = cost;
                    best = shorts;
                }
            }
            return best;
        }

        /** The same for many ORDERS: what can be saved by the ORDERS from k on with so much space. */
        boolean[] pack(int u) {
            int n = orders.size();
            long free = roomShare(u) < 0 ? -1 : (1L << 2 * u) - roomShare(u);
            for (Ord o : orders) {
                if (bits(o) >= 2 * u) {
                    return null;
                }
                free -= 1L << bits(o);
            }
            if (free < 0) {
                return null;
            }
            int space = (int) (free / ((1 << u) - 1));
            int[][] saved = new int[n + 1][space + 1];
            for (int k = n - 1; k >= 0; k--) {
                Ord o = orders.get(k);
                int size = 1 << bits(o);
                for (int c = 0; c <= space; c++) {
                    saved[k][c] = saved[k + 1][c];
                    if (bits(o) < u && size <= c) {
                        saved[k][c] = Math.max(saved[k][c], saved[k + 1][c - size] + o.use);
                    }
                }
            }
            boolean[] shorts = new boolean[n];
            int c = space;
            for (int k = 0; k < n; k++) {
                Ord o = orders.get(k);
                int size = 1 << bits(o);
                shorts[k] = bits(o) < u && size <= c && saved[k][c] == saved[k + 1][c - size] + o.use;
                c -= shorts[k] ? size : 0;
            }
            return shorts;
        }

        static String binary(long value, int bits) {
            StringBuilder s = new StringBuilder();
            for (int i = bits - 1; i >= 0; i--) {
                s.append((value >> i & 1) == 1 ? '1' : '0');
            }
            return s.toString();
        }

        static String following(String mark, int bits) {
            if (mark == null) {
                return binary(0, bits);
            }
            return binary(Long.parseLong(mark, 2) + 1 << (bits - mark.length()), bits);
        }

        void setMarks() {
            String last = null;
            for (int m = 1; m <= 2 * unit; m++) {
                for (Ord o : orders) {
                    if (o.units * unit - bits(o) == m) {
                        last = following(last, m);
                        o.mark = last;
                    }
                }
                for (Roo r : rooms) {
                    if (2 * unit - r.bits == m) {
                        r.taken = 0;
                        r.marks.clear();
                        for (int i = 0; i < r.orders; i++) {
                            last = following(last, m);
                            r.marks.add(last);
                        }
                    }
                }
            }
        }

        int fewest;
        int[] bestPlaces;

        void chooseRow(int k) {
            Ord o = orders.get(k);
            fewest = Integer.MAX_VALUE;
            permute(k, new ArrayList<>());
            o.places = bestPlaces;
        }

        void permute(int k, List<Integer> row) {
            Ord o = orders.get(k);
            if (row.size() == o.fields.size()) {
                int[] places = new int[row.size()];
                int behind = 0;
                int fresh = 0;
                for (int j = row.size() - 1; j >= 0; j--) {
                    int i = row.get(j);
                    places[i] = behind;
                    fresh += placesOf(o.fields.get(i), k).contains(behind) ? 0 : 1;
                    behind += widths.get(o.fields.get(i));
                }
                if (fresh < fewest) {
                    fewest = fresh;
                    bestPlaces = places;
                }
                return;
            }
            for (int i = 0; i < o.fields.size(); i++) {
                if (!row.contains(i)) {
                    row.add(i);
                    permute(k, row);
                    row.remove(row.size() - 1);
                }
            }
        }

        TreeSet<Integer> placesOf(int field, int upTo) {
            TreeSet<Integer> all = new TreeSet<>();
            for (int k = 0; k < upTo; k++) {
                int i = orders.get(k).fields.indexOf(field);
                if (i >= 0) {
                    all.add(orders.get(k).places[i]);
                }
            }
            return all;
        }

        int add() {
            String text = tape;
            tape = "";
            if (unit == 0) {
                return -3;
            }
            List<Token> tokens = tokens(text);
            Fault fault = shapeFault(tokens, true);
            if (fault == null) {
                List<Fault> faults = new ArrayList<>();
                tell(tokens, faults);
                fault = first(faults);
                if (fault != null) {
                    orders.remove(orders.size() - 1);
                }
            }
            if (fault != null) {
                place = fault.place;
                return -1;
            }
            int k = orders.size() - 1;
            Ord o = orders.get(k);
            for (Roo r : rooms) {
                if (r.taken < r.orders && r.bits >= bits(o)) {
                    o.units = 2;
                    o.came = true;
                    o.mark = r.marks.get(r.taken) + "0".repeat(r.bits - bits(o));
                    r.taken++;
                    chooseRow(k);
                    decode();
                    place = -1;
                    return k;
                }
            }
            orders.remove(k);
            return -2;
        }

        void decode() {
            List<String> marks = new ArrayList<>();
            Map<String, Ord> owners = new HashMap<>();
            for (Ord o : orders) {
                marks.add(o.mark);
                owners.put(o.mark, o);
            }
            for (Roo r : rooms) {
                marks.addAll(r.marks.subList(r.taken, r.orders));
            }
            asked = 0;
            deepest = 0;
            ends = 0;
            if (!marks.isEmpty()) {
                ask(marks, owners, 0);
            }
        }

        void ask(List<String> marks, Map<String, Ord> owners, int depth) {
            boolean ofRooms = true;
            int shortest = 99;
            for (String m : marks) {
                ofRooms &= !owners.containsKey(m);
                shortest = Math.min(shortest, m.length());
            }
            if (marks.size() == 1 || ofRooms) {
                ends++;
                deepest = Math.max(deepest, depth);
                if (!ofRooms) {
                    owners.get(marks.get(0)).depth = depth;
                }
                return;
            }
            List<String> bestZeros = null;
            List<String> bestOnes = null;
            for (int bit = 0; bit < shortest; bit++) {
                List<String> zeros = new ArrayList<>();
                List<String> ones = new ArrayList<>();
                for (String m : marks) {
                    (m.charAt(bit) == '0' ? zeros : ones).add(m);
                }
                if (zeros.isEmpty() || ones.isEmpty()) {
                    continue;
                }
                if (bestZeros == null || Math.max(zeros.size(), ones.size()) < Math.max(bestZeros.size(), bestOnes.size())) {
                    bestZeros = zeros;
                    bestOnes = ones;
                }
            }
            asked++;
            ask(bestZeros, owners, depth + 1);
            ask(bestOnes, owners, depth + 1);
        }

        static int asInt(String mark) {
            return (int) Long.parseLong(mark, 2);
        }

        int order(int k, int what) {
            if (k < 0 || k >= orders.size()) {
                return -1;
            }
            Ord o = orders.get(k);
            int n = o.fields.size();
            if (what >= 20 && what - 20 < n) {
                return o.fields.get(what - 20);
            }
            if (what >= 0 && what <= 2) {
                return what == 0 ? o.use : what == 1 ? n : bits(o);
            }
            if (unit == 0) {
                return -1;
            }
            if (what >= 10 && what - 10 < n) {
                return o.places[what - 10];
            }
            switch (what) {
                case 3: return o.units;
                case 4: return o.mark.length();
                case 5: return asInt(o.mark);
                case 6: return o.came ? 1 : 0;
                case 7: return o.depth;
                default: return -1;
            }
        }

        int field(int k, int what) {
            if (k < 0 || k >= widths.size()) {
                return -1;
            }
            if (what == 0) {
                return widths.get(k);
            }
            if (what == 1) {
                int with = 0;
                for (Ord o : orders) {
                    with += o.fields.contains(k) ? 1 : 0;
                }
                return with;
            }
            return what == 2 && unit != 0 ? placesOf(k, orders.size()).size() : -1;
        }

        int room(int k, int what) {
            if (k < 0 || k >= rooms.size()) {
                return -1;
            }
            Roo r = rooms.get(k);
            if (what == 0 || what == 1) {
                return what == 0 ? r.orders : r.bits;
            }
            if (unit == 0) {
                return -1;
            }
            switch (what) {
                case 2: return r.taken;
                case 3: return r.marks.get(0).length();
                case 4: return asInt(r.marks.get(0));
                default: return -1;
            }
        }

        int alias(int k, int what) {
            if (k < 0 || k >= aliases.size()) {
                return -1;
            }
            Ali a = aliases.get(k);
            if (what == 0 || what == 1) {
                return what == 0 ? a.order : a.held.size();
            }
            if (what >= 10 && what - 10 < a.held.size()) {
                return a.held.get(what - 10)[0];
            }
            return what >= 20 && what - 20 < a.held.size() ? a.held.get(what - 20)[1] : -1;
        }

        boolean give(int i, int v) {
            if (i < 0 || i > 5 || v < 0 || v > 65535) {
                return false;
            }
            given[i] = v;
            return true;
        }

        long word(int k) {
            if (unit == 0 || k < 0 || k >= orders.size()) {
                return -1;
            }
            Ord o = orders.get(k);
            String[] byPlace = new String[32];
            for (int i = 0; i < o.fields.size(); i++) {
                int width = widths.get(o.fields.get(i));
                if (given[i] >= 1 << width) {
                    return -1;
                }
                byPlace[o.places[i]] = binary(given[i], width);
            }
            StringBuilder s = new StringBuilder(o.mark);
            for (int p = 31; p >= 0; p--) {
                if (byPlace[p] != null) {
                    s.append(byPlace[p]);
                }
            }
            return Long.parseLong(s.toString(), 2);
        }

        int reads(long w, int units) {
            if (unit == 0 || units < 1 || units > 2) {
                return -1;
            }
            String s = binary(w, units * unit);
            for (int k = 0; k < orders.size(); k++) {
                Ord o = orders.get(k);
                if (s.startsWith(o.mark) && units >= o.units) {
                    String word = s.substring(0, o.units * unit);
                    got = new int[o.fields.size()];
                    for (int i = 0; i < got.length; i++) {
                        int to = word.length() - o.places[i];
                        got[i] = Integer.parseInt(word.substring(to - widths.get(o.fields.get(i)), to), 2);
                    }
                    gotAlias = aliasOf(k);
                    return k;
                }
            }
            return -1;
        }

        int aliasOf(int k) {
            for (int a = 0; a < aliases.size(); a++) {
                boolean fits = aliases.get(a).order == k;
                for (int[] h : aliases.get(a).held) {
                    fits = fits && got[orders.get(k).fields.indexOf(h[0])] == h[1];
                }
                if (fits) {
                    return a;
                }
            }
            return -1;
        }

        int got(int i) {
            if (got == null) {
                return -1;
            }
            return i == -1 ? gotAlias : i >= 0 && i < got.length ? got[i] : -1;
        }

        int tests(int what) {
            if (unit == 0) {
                return -1;
            }
            return what == 0 ? asked : what == 1 ? deepest : what == 2 ? ends : -1;
        }

        int count(int what) {
            int shorts = 0;
            int free = 0;
            if (unit != 0) {
                for (Ord o : orders) {
                    shorts += o.units == 1 ? 1 : 0;
                }
                for (Roo r : rooms) {
                    free += r.orders - r.taken;
                }
            }
            switch (what) {
                case 0: return widths.size();
                case 1: return orders.size();
                case 2: return aliases.size();
                case 3: return rooms.size();
                case 4: return unit;
                case 5: return shorts;
                case 6: return unit == 0 ? 0 : cost();
                case 7: return free;
                case 8: return tape.length();
                default: return -1;
            }
        }
    }

    // ---- texts made from a seed

    private static String blank(Random r) {
        String[] blanks = {"", "", "", " ", "\n", "\t ", "\r\n"};
        return blanks[r.nextInt(blanks.length)];
    }

    private static int pick(Random r, int from, int to) {
        return from + r.nextInt(to - from + 1);
    }

    private static <T> T any(Random r, List<T> list, T other) {
        return list.isEmpty() ? other : list.get(r.nextInt(list.size()));
    }

    private static int use(Random r) {
        switch (r.nextInt(4)) {
            case 0: return r.nextInt(3);
            case 1: return pick(r, 9990, 10000);
            default: return r.nextInt(60);
        }
    }

    private static String members(Random r, List<String> fields, int most) {
        List<String> left = new ArrayList<>(fields);
        java.util.Collections.shuffle(left, r);
        int n = Math.min(left.size(), r.nextInt(most + 1));
        return String.join(blank(r) + "," + blank(r), left.subList(0, n));
    }

    private static String orderText(Random r, String name, List<String> fields, int most) {
        String list = members(r, fields, most);
        return "order " + name + " " + use(r) + blank(r) + (list.isEmpty() ? "" : ":" + blank(r) + list) + blank(r) + ";";
    }

    private static String text(Random r) {
        StringBuilder s = new StringBuilder();
        boolean small = r.nextInt(3) != 0;
        int fields = r.nextInt(r.nextBoolean() ? 13 : 5);
        int orders = r.nextInt(r.nextInt(3) == 0 ? 25 : 9);
        int most = r.nextInt(7);
        List<String> names = new ArrayList<>();
        List<Integer> widths = new ArrayList<>();
        for (int i = 0; i < fields; i++) {
            String name = "f" + (i % 10) + (i / 10);
            int width = small ? pick(r, 1, 3) : pick(r, 1, r.nextBoolean() ? 5 : 16);
            names.add(name);
            widths.add(width);
            s.append(blank(r)).append("field ").append(name).append(" ").append(width).append(blank(r)).append(";");
        }
        List<String> told = new ArrayList<>();
        List<String> lists = new ArrayList<>();
        int rooms = 0;
        int aliases = 0;
        for (int i = 0; i < orders; i++) {
            String one = orderText(r, "o" + i, names, most);
            s.append(blank(r)).append(one);
            told.add("o" + i);
            lists.add(one.contains(":") ? one.substring(one.indexOf(':') + 1, one.indexOf(';')).replaceAll("\\s", "") : "");
            if (r.nextInt(4) == 0 && rooms < 4) {
                rooms++;
                s.append(roomText(r, small));
            }
            if (r.nextInt(3) == 0 && aliases < 16) {
                s.append(aliasText(r, "a" + aliases, i, lists, names, widths));
                aliases++;
            }
        }
        if (rooms < 4 && r.nextBoolean()) {
            s.append(roomText(r, small));
        }
        return s.append(blank(r)).toString();
    }

    private static String roomText(Random r, boolean small) {
        int orders = r.nextInt(3) == 0 ? pick(r, 1, 64) : pick(r, 1, 4);
        return "room " + orders + " " + r.nextInt(small ? 12 : 25) + ";";
    }

    private static String aliasText(Random r, String name, int upTo, List<String> lists, List<String> names, List<Integer> widths) {
        int k = r.nextInt(upTo + 1);
        StringBuilder s = new StringBuilder("alias " + name + "=" + "o" + k);
        if (!lists.get(k).isEmpty()) {
            List<String> left = new ArrayList<>(Arrays.asList(lists.get(k).split(",")));
            java.util.Collections.shuffle(left, r);
            for (String f : left.subList(0, r.nextInt(Math.min(left.size(), 2) + 1))) {
                int width = widths.get(names.indexOf(f));
                s.append(blank(r)).append(",").append(f).append(" ").append(r.nextInt(Math.min(4, 1 << width)));
            }
        }
        return s.append(";").toString();
    }

    /** Spoils a text at one place or more. */
    private static String spoil(Random r, String text) {
        String[] parts = {"field", "order ", "alias ", "room ", "0", "17", "99999", ";", ",", ":", "=", "f00", "f10", "o0", "o1", "a0",
            " ", ".", "A", "f00,", "f10 9", "abcdefgh", "\u0000", "\u00e9", "field g 1;", "room 1 1;", "order q 1:f00,f10,f20,f30,f40,f50,f60;",
            "room 64 24;".repeat(4), "order p 1;".repeat(20), "alias p=o0;".repeat(9), "field h 1;".repeat(8),
            ",f00,f10,f20,f30,f40", ",f00 1,f10 1,f20 0,f30 1,f40 1"};
        StringBuilder s = new StringBuilder(text);
        for (int n = pick(r, 1, 2); n > 0; n--) {
            int at = r.nextInt(s.length() + 1);
            if (r.nextBoolean()) {
                // behind a TELL, where further ones fit
                at = s.lastIndexOf(";", at) + 1;
                at = Math.min(at, s.length());
            }
            if (r.nextInt(3) == 0) {
                s.delete(at, Math.min(s.length(), at + pick(r, 1, 3)));
            } else {
                s.insert(at, parts[r.nextInt(parts.length)]);
            }
        }
        return s.length() > 2980 ? s.substring(0, 2980) : s.toString();
    }

    /** Long texts with few FAULTS of shape, for the FAULTS of meaning. */
    private static String renamed(Random r, String text) {
        String[] from = {"f00", "f10", "f20", "o0", "o1", "o2", "a0", "a1", " 1", " 2", "room 3", "order o3 "};
        String[] to = {"f10", "f00", "zz", "o1", "a0", "f00", "o0", "a0", " 17", " 65", "room 0", "order o3 1"};
        int i = r.nextInt(from.length);
        int at = text.indexOf(from[i], r.nextInt(text.length() + 1));
        return at < 0 ? text : text.substring(0, at) + to[i] + text.substring(at + from[i].length());
    }

    // ---- the comparison

    private static void feed(Desk x, Model m, String text) {
        x.feedText(text);
        m.tape = text;
    }

    /** Asks some of all that can be asked, as an object has but 512 calls. */
    private static void compare(String state, Desk x, Model m, Random r, int questions) {
        Due.same(state + ": place()", m.place, x.place());
        for (int n = 0; n < questions && x.callsLeft() > 20; n++) {
            int kind = r.nextInt(20);
            if (kind < 9) {
                compareOrder(state, x, m, r);
            } else if (kind < 15) {
                compareOthers(state, kind, x, m, r);
            } else if (kind < 18) {
                int what = kind == 15 ? pick(r, -1, 3) : pick(r, -1, 9);
                boolean tests = kind == 15;
                Due.same(state + (tests ? ": tests(" : ": count(") + what + ")", tests ? m.tests(what) : m.count(what),
                    tests ? x.tests(what) : x.count(what));
            } else {
                compareWord(state, x, m, r);
            }
        }
    }

    private static void compareOrder(String state, Desk x, Model m, Random r) {
        int k = r.nextInt(8) == 0 ? pick(r, -1, 41) : pick(r, 0, m.orders.size());
        int what = r.nextBoolean() ? pick(r, 3, 7) : r.nextBoolean() ? pick(r, 10, 13) : pick(r, -1, 27);
        Due.same(state + ": order(" + k + ", " + what + ")", m.order(k, what), x.order(k, what));
    }

    private static void compareOthers(String state, int kind, Desk x, Model m, Random r) {
        int k = pick(r, -1, kind < 11 ? 12 : kind < 13 ? 4 : 16);
        int what = kind < 13 ? pick(r, -1, 5) : r.nextBoolean() ? pick(r, -1, 13) : pick(r, 18, 27);
        if (kind < 11) {
            Due.same(state + ": field(" + k + ", " + what + ")", m.field(k, what), x.field(k, what));
        } else if (kind < 13) {
            Due.same(state + ": room(" + k + ", " + what + ")", m.room(k, what), x.room(k, what));
        } else {
            Due.same(state + ": alias(" + k + ", " + what + ")", m.alias(k, what), x.alias(k, what));
        }
    }

    private static void compareWord(String state, Desk x, Model m, Random r) {
        int i = pick(r, -1, 6);
        int v = r.nextInt(3) == 0 ? pick(r, -1, 65536) : r.nextInt(4);
        Due.same(state + ": give(" + i + ", " + v + ")", m.give(i, v), x.give(i, v));
        int k = pick(r, -1, m.orders.size());
        long word = m.word(k);
        Due.same(state + ": word(" + k + ")", word, x.word(k));
        int units = r.nextInt(6) == 0 ? pick(r, 0, 3) : pick(r, 1, 2);
        long w = word >= 0 && r.nextInt(3) > 0 ? word : r.nextLong();
        if (word >= 0 && r.nextInt(4) == 0) {
            w = word << m.unit | r.nextInt(1 << m.unit);
        }
        int read = m.reads(w, units);
        note(read < 0 ? "reads none" : "reads one");
        Due.same(state + ": reads(" + w + ", " + units + ")", read, x.reads(w, units));
        for (int g : new int[] {-1, pick(r, 0, 2), pick(r, -2, 6)}) {
            Due.same(state + ": got(" + g + ")", m.got(g), x.got(g));
        }
    }

    private static void note(String what) {
        seen.merge(what, 1, Integer::sum);
    }

    private static void run(long seed) {
        Due.sentence("seed " + seed);
        Random r = new Random(seed);
        Desk x = new Desk();
        Model m = new Model();
        for (int round = 0; round < 5; round++) {
            String text = text(r);
            int how = r.nextInt(4);
            String given = how == 0 ? spoil(r, text) : how == 1 ? renamed(r, text) : text;
            if (given.length() > 2980 || x.callsLeft() < Desk.callsToFeed(given) + 60) {
                continue;
            }
            feed(x, m, given);
            int answer = m.read();
            note("read " + answer);
            Due.same("read of <" + given + ">", answer, x.read());
            compare("read", x, m, r, 15);
            for (int step = r.nextInt(4); step > 0 && x.callsLeft() > 30; step--) {
                layAndAdd(given, x, m, r);
            }
        }
    }

    private static void layAndAdd(String given, Desk x, Model m, Random r) {
        int u = r.nextInt(8) == 0 ? pick(r, 7, 17) : r.nextBoolean() ? 8 : 16;
        int cost = m.lay(u);
        note("lay " + Math.min(cost, 0));
        Due.same("lay(" + u + ") of <" + given + ">", cost, x.lay(u));
        compare("lay", x, m, r, 20);
        for (int n = r.nextInt(5); n > 0; n--) {
            String coming = orderText(r, "n" + r.nextInt(60), m.fieldNames, 3);
            coming = r.nextInt(5) == 0 ? spoil(r, coming) : coming;
            if (x.callsLeft() < Desk.callsToFeed(coming) + 30) {
                return;
            }
            feed(x, m, coming);
            int k = m.add();
            note("add " + Math.min(k, 0));
            Due.same("add of <" + coming + ">", k, x.add());
            compare("add", x, m, r, 10);
        }
    }

    /** As many MARKS as there can be: 40 ORDERS, and four rooms of 64 that are free. */
    private static void runFull(long seed) {
        Due.sentence("full, seed " + seed);
        Random r = new Random(seed);
        Desk x = new Desk();
        Model m = new Model();
        StringBuilder text = new StringBuilder("field a 1;field b 2;field c 4;");
        for (int i = 0; i < 4; i++) {
            text.append("room 64 ").append(r.nextInt(r.nextBoolean() ? 24 : 12)).append(";");
        }
        for (int k = 0; k < 24; k++) {
            text.append(fullOrder(r, k));
        }
        feed(x, m, text.toString());
        Due.same("read of <" + text + ">", m.read(), x.read());
        Due.same("lay", m.lay(16), x.lay(16));
        for (int k = 24; k < 40; k++) {
            feed(x, m, fullOrder(r, k));
            Due.same("add", m.add(), x.add());
        }
        Due.same("laid again", m.lay(16), x.lay(16));
        note("MARKS in all " + (m.orders.size() + m.count(7)));
        for (int what = 0; what <= 2; what++) {
            Due.same("tests(" + what + ") of <" + text + ">", m.tests(what), x.tests(what));
        }
        for (int k = 0; k < 40; k++) {
            Due.same("order(" + k + ", 7) of <" + text + ">", m.order(k, 7), x.order(k, 7));
        }
    }

    private static String fullOrder(Random r, int k) {
        String[] lists = {"", ":a", ":b", ":c", ":b,a", ":c,b", ":a,b,c"};
        return "order o" + k + " " + r.nextInt(5) + lists[r.nextInt(lists.length)] + ";";
    }

    public static void main(String[] args) {
        int runs = args.length > 0 ? Integer.parseInt(args[0]) : 2000;
        int first = args.length > 1 ? Integer.parseInt(args[1]) : 0;
        for (long seed = first; seed < first + runs; seed++) {
            run(seed);
        }
        for (long seed = first; seed < first + runs / 20; seed++) {
            runFull(seed);
        }
        System.out.println(new java.util.TreeMap<>(seen));
        Due.end("all answers are the model's");
    }
}
