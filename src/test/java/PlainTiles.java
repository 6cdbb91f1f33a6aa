import java.util.ArrayList;
import java.util.Arrays;
import java.util.Collections;
import java.util.List;
import java.util.function.Predicate;

/**
 * The document told a second time, as plainly as can be and otherwise than in the program: kinds are classes under
 * classes, texts are read by what may stand next, all that is thought is done on copies. RandomRunsTest compares both.
 */
final class PlainTiles {
    static final int NONE = -1, BAD = -2, STATE = -3, FULL = -4;
    static final long NO = -4611686018427387904L;

    // ---- kinds

    static class Party {
        int number, on, weary;

        int kind() { return 0; }
        int[][] ways() {
            return new int[][] {{1, 2}, {2, 1}, {2, -1}, {1, -2}, {-1, -2}, {-2, -1}, {-2, 1}, {-1, 2}};
        }
        int[] way(int way, int minute) { return ways()[way]; }
        int tires(int v) { return v; }
        int rests(int v) { return v; }
        int found(boolean red, boolean black) { return red ? 2 : black ? 1 : 0; }
    }

    static class Advocate extends Party {
        @Override int kind() { return 1; }
        @Override int[][] ways() {
            int[][] ways = super.ways();
            ways[0] = new int[] {2, 2};
            ways[1] = new int[] {2, -2};
            ways[2] = new int[] {-2, -2};
            ways[3] = new int[] {-2, 2};
            return ways;
        }
        @Override int tires(int v) { return super.tires(v) / 2; }
        @Override int found(boolean red, boolean black) {
            int as = super.found(red, black);
            return weary < 5 && as != 2 ? 1 : as;
        }
    }

    static class Clerk extends Party {
        @Override int kind() { return 2; }
        @Override int[][] ways() {
            return new int[][] {{0, 1}, null, {1, 0}, null, {0, -1}, null, {-1, 0}, null};
        }
        @Override int tires(int v) { return super.tires(v) + 1; }
        @Override int rests(int v) { return 0; }
    }

    static class Robed extends Advocate {
        @Override int kind() { return 3; }
        @Override int[] way(int way, int minute) { return way == number ? null : super.way(way, minute); }
        @Override int tires(int v) { return super.tires(v) + number; }
        @Override int rests(int v) { return super.rests(v) / 2; }
    }

    static class Old extends Clerk {
        @Override int kind() { return 4; }
        @Override int[] way(int way, int minute) { return minute % 2 != 0 ? null : super.way(way, minute); }
        @Override int tires(int v) { return super.tires(v) * 2; }
        @Override int rests(int v) { return number; }
        @Override int found(boolean red, boolean black) { return super.found(red, black) == 2 ? 2 : 0; }
    }

    static class Washer extends Party {
        @Override int kind() { return 5; }
        @Override int[] way(int way, int minute) { return weary < 50 ? super.way(way, minute) : null; }
        @Override int tires(int v) { return super.tires(v) + 10; }
        @Override int rests(int v) { return super.rests(v) * 2; }
        @Override int found(boolean red, boolean black) { return weary >= 50 ? 2 : super.found(red, black); }
    }

    static Party ofKind(int kind, int number, int on, int weary) {
        Party p = switch (kind) {
            case 0 -> new Party();
            case 1 -> new Advocate();
            case 2 -> new Clerk();
            case 3 -> new Robed();
            case 4 -> new Old();
            default -> new Washer();
        };
        p.number = number;
        p.on = on;
        p.weary = weary;
        return p;
    }

    // ---- texts

    record Token(String is, int at) { }

    /** Tokens up to the first that is none; that one is told as "?", the end as "". */
    static List<Token> tokens(String tape) {
        List<Token> all = new ArrayList<>();
        int at = 0;
        while (at < tape.length()) {
            char c = tape.charAt(at);
            if (c == 32 || c == 10) {
                at++;
                continue;
            }
            int to = at + 1;
            String is;
            if (c >= 'a' && c <= 'z') {
                while (to < tape.length() && tape.charAt(to) >= 'a' && tape.charAt(to) <= 'z') to++;
                is = tape.substring(at, to);
                if (!KEYS.contains(is) && !NAMES.contains(is)) is = "?";
            } else if (c >= '0' && c <= '9') {
                while (to < tape.length() && tape.charAt(to) >= '0' && tape.charAt(to) <= '9') to++;
                is = to - at > 4 ? "?" : tape.substring(at, to);
            } else {
                is = "();+-*<=".indexOf(c) < 0 ? "?" : String.valueOf(c);
            }
            all.add(new Token(is, at));
            if (is.equals("?")) return all;
            at = to;
        }
        all.add(new Token("", tape.length()));
        return all;
    }

    static final List<String> NAMES = List.of("weary", "column", "row", "number", "minute", "worn");
    static final List<String> KEYS = List.of("turns", "tires", "rests", "or", "and", "not");

    /** What stands open: a bracket, a not, a minus; and whether the NOT at work there has had its < or =. */
    static final class Open {
        final char by;
        boolean compared;
        Open(char by) { this.by = by; }
    }

    /** The place of the fault, or NONE: told by what may stand next, not by recursion. */
    static int fault(String tape) {
        List<Token> tokens = tokens(tape);
        int next = 0;
        for (String key : List.of("turns", "tires", "rests")) {
            if (!tokens.get(next).is.equals(key)) return tokens.get(next).at;
            next++;
            // The lowest stands for the E itself and counts for nothing.
            List<Open> open = new ArrayList<>(List.of(new Open('E')));
            boolean wantsOne = true, notMayStand = true;
            while (true) {
                Token t = tokens.get(next);
                Open top = open.get(open.size() - 1);
                boolean isOpening = t.is.equals("(") || t.is.equals("-") || t.is.equals("not");
                if (wantsOne) {
                    if (isOpening) {
                        if (open.size() - 1 == 5 || t.is.equals("not") && !notMayStand) return t.at;
                        open.add(new Open(t.is.charAt(0)));
                        // Behind a not or a bracket a NOT begins, behind a minus a ONE.
                        notMayStand = !t.is.equals("-");
                        if (t.is.equals("-")) open.get(open.size() - 1).compared = true;
                    } else if (NAMES.contains(t.is) || !t.is.isEmpty() && Character.isDigit(t.is.charAt(0))) {
                        wantsOne = false;
                        closeMinuses(open);
                    } else {
                        return t.at;
                    }
                } else if (t.is.equals("+") || t.is.equals("-") || t.is.equals("*")) {
                    wantsOne = true;
                    notMayStand = false;
                } else if (t.is.equals("<") || t.is.equals("=")) {
                    if (top.compared) return t.at;
                    top.compared = true;
                    wantsOne = true;
                    notMayStand = false;
                } else if (t.is.equals("or") || t.is.equals("and")) {
                    closeNots(open);
                    open.get(open.size() - 1).compared = false;
                    wantsOne = true;
                    notMayStand = true;
                } else if (t.is.equals(")")) {
                    closeNots(open);
                    if (open.get(open.size() - 1).by != '(') return t.at;
                    open.remove(open.size() - 1);
                    closeMinuses(open);
                } else if (t.is.equals(";")) {
                    closeNots(open);
                    if (open.get(open.size() - 1).by != 'E') return t.at;
                    next++;
                    break;
                } else {
                    return t.at;
                }
                next++;
            }
        }
        return tokens.get(next).is.isEmpty() ? NONE : tokens.get(next).at;
    }

    static void closeMinuses(List<Open> open) {
        while (open.get(open.size() - 1).by == '-') open.remove(open.size() - 1);
    }

    static void closeNots(List<Open> open) {
        while (open.get(open.size() - 1).by == 'n') open.remove(open.size() - 1);
    }

    /** The value of a part of a text that has no fault: cut at its loosest sign, again and again. */
    static int value(List<String> e, Party p, Floor floor) {
        int cut = loosest(e, List.of("or"));
        if (cut > 0) return truth(left(e, cut, p, floor) != 0 | right(e, cut, p, floor) != 0);
        cut = loosest(e, List.of("and"));
        if (cut > 0) return truth(left(e, cut, p, floor) != 0 & right(e, cut, p, floor) != 0);
        if (e.get(0).equals("not")) return truth(right(e, 0, p, floor) == 0);
        cut = loosest(e, List.of("<", "="));
        if (cut > 0) {
            int a = left(e, cut, p, floor), b = right(e, cut, p, floor);
            return truth(e.get(cut).equals("<") ? a < b : a == b);
        }
        cut = loosest(e, List.of("+", "-"));
        if (cut > 0) {
            int a = left(e, cut, p, floor), b = right(e, cut, p, floor);
            return e.get(cut).equals("+") ? a + b : a - b;
        }
        cut = loosest(e, List.of("*"));
        if (cut > 0) return left(e, cut, p, floor) * right(e, cut, p, floor);
        if (e.get(0).equals("-")) return -right(e, 0, p, floor);
        if (e.get(0).equals("(")) return value(e.subList(1, e.size() - 1), p, floor);
        return switch (e.get(0)) {
            case "weary" -> p.weary;
            case "column" -> p.on % 8;
            case "row" -> p.on / 8;
            case "number" -> p.number;
            case "minute" -> floor.minute;
            case "worn" -> floor.howManyHollow();
            default -> Integer.parseInt(e.get(0));
        };
    }

    static int left(List<String> e, int cut, Party p, Floor floor) { return value(e.subList(0, cut), p, floor); }
    static int right(List<String> e, int cut, Party p, Floor floor) {
        return value(e.subList(cut + 1, e.size()), p, floor);
    }
    static int truth(boolean b) { return b ? 1 : 0; }

    /** The last of these signs that stands between two things and in no bracket; NONE. */
    static int loosest(List<String> e, List<String> signs) {
        int depth = 0;
        for (int k = e.size() - 1; k > 0; k--) {
            if (e.get(k).equals(")")) depth++;
            if (e.get(k).equals("(")) depth--;
            String before = e.get(k - 1);
            boolean between = before.equals(")") || NAMES.contains(before) || Character.isDigit(before.charAt(0));
            if (depth == 0 && between && signs.contains(e.get(k))) return k;
        }
        return NONE;
    }

    /** The three parts of a text that has no fault. */
    static List<List<String>> parts(String tape) {
        List<List<String>> parts = new ArrayList<>();
        for (Token t : tokens(tape)) {
            if (t.is.equals("turns") || t.is.equals("tires") || t.is.equals("rests")) {
                parts.add(new ArrayList<>());
            } else if (!t.is.equals(";") && !t.is.isEmpty()) {
                parts.get(parts.size() - 1).add(t.is);
            }
        }
        return parts;
    }

    // ---- the floor

    final class Floor {
        boolean[] red = new boolean[64], hollow = new boolean[64];
        int minute, rule;
        List<Party> parties = new ArrayList<>();

        Floor copy() {
            Floor f = new Floor();
            f.red = red.clone();
            f.hollow = hollow.clone();
            f.minute = minute;
            f.rule = rule;
            for (Party p : parties) f.parties.add(ofKind(p.kind(), p.number, p.on, p.weary));
            return f;
        }

        int howManyHollow() {
            int n = 0;
            for (boolean h : hollow) if (h) n++;
            return n;
        }

        int landing(Party p, int way) { return landing(p, p.on, way); }

        int landing(Party p, int tile, int way) {
            int[] by = p.way(way, minute);
            if (by == null) return NONE;
            int column = tile % 8 + by[0], row = tile / 8 + by[1];
            if (column < 0 || column > 7 || row < 0 || row > 7) return NONE;
            return hollow[row * 8 + column] ? NONE : row * 8 + column;
        }

        int part(int part, Party p) { return value(texts.get(rule).get(part), p, this); }

        int way(Party p) {
            int v = Math.max(-99, Math.min(99, part(0, p)));
            return (v % 8 + 8) % 8;
        }

        int tires(Party p) { return bound(p.tires(bound(part(1, p)))); }
        int rests(Party p) { return bound(p.rests(bound(part(2, p)))); }
        int bound(int v) { return Math.max(0, Math.min(99, v)); }

        int found(Party p) { return p.found(red[p.on], !red[p.on] && (p.on % 8 + p.on / 8) % 2 != 0); }

        int howMany(int f) {
            int n = 0;
            for (Party p : parties) if (found(p) == f) n++;
            return n;
        }

        int pass(Party still) {
            int leapt = 0;
            for (int i = 0; i < parties.size(); i++) {
                Party p = parties.get(i);
                int to = landing(p, way(p)), tires = tires(p), rests = rests(p);
                if (to == NONE || p == still) {
                    p.weary = Math.max(0, p.weary - rests);
                } else {
                    p.on = to;
                    p.weary = Math.min(99, p.weary + tires);
                    leapt |= 1 << i;
                }
            }
            minute++;
            return leapt;
        }

        Floor after(int n) { return after(n, NONE); }

        Floor after(int n, int still) {
            Floor f = copy();
            for (int k = 0; k < n; k++) f.pass(still == NONE ? null : f.parties.get(still));
            return f;
        }
    }

    final List<List<List<String>>> texts = new ArrayList<>();
    Floor now = new Floor();
    Floor kept;
    final StringBuilder tape = new StringBuilder();
    final long[][] sheets = new long[4][];
    final int[] sorts = new int[4];

    PlainTiles() {
        texts.add(parts("turns minute + number ; tires 3 ; rests 2 ;"));
    }

    boolean one(int one) { return one >= 0 && one < now.parties.size(); }
    boolean in(int v, int low, int high) { return v >= low && v <= high; }
    boolean anybodyOn(int tile) { return now.parties.stream().anyMatch(p -> p.on == tile); }

    // ---- tiles, parties

    int set(int what, int of, int v) {
        int was;
        switch (what) {
            case 0:
                if (!in(v, 0, 999)) return BAD;
                was = now.minute;
                now.minute = v;
                return was;
            case 1:
            case 2:
                if (!in(of, 0, 63) || !in(v, 0, 1) || what == 2 && anybodyOn(of)) return BAD;
                boolean[] tiles = what == 1 ? now.red : now.hollow;
                was = truth(tiles[of]);
                tiles[of] = v == 1;
                return was;
            case 3:
                if (!one(of) || !in(v, 0, 9)) return BAD;
                was = now.parties.get(of).number;
                now.parties.get(of).number = v;
                return was;
            case 4:
                if (!one(of) || !in(v, 0, 63) || now.hollow[v]) return BAD;
                was = now.parties.get(of).on;
                now.parties.get(of).on = v;
                return was;
            case 5:
                if (!one(of) || !in(v, 0, 99)) return BAD;
                was = now.parties.get(of).weary;
                now.parties.get(of).weary = v;
                return was;
            default:
                return BAD;
        }
    }

    int party(int kind, int number, int on) {
        if (!in(kind, 0, 5) || !in(number, 0, 9) || !in(on, 0, 63) || now.hollow[on]) return BAD;
        if (now.parties.size() == 5) return FULL;
        now.parties.add(ofKind(kind, number, on, 0));
        return now.parties.size() - 1;
    }

    int told(int of, int what) {
        if (what == 0) return now.minute;
        if (what == 1 || what == 2 || what == 11) {
            if (!in(of, 0, 63)) return -1000;
            if (what != 11) return truth(what == 1 ? now.red[of] : now.hollow[of]);
            int bits = 0;
            for (int i = 0; i < now.parties.size(); i++) if (now.parties.get(i).on == of) bits += 1 << i;
            return bits;
        }
        if (!one(of)) return -1000;
        Party p = now.parties.get(of);
        return switch (what) {
            case 3 -> p.number;
            case 4 -> p.on;
            case 5 -> p.weary;
            case 6 -> p.kind();
            case 7 -> now.way(p);
            case 8 -> now.tires(p);
            case 9 -> now.rests(p);
            case 10 -> now.found(p);
            default -> -1000;
        };
    }

    int leap(int one, int way) {
        return one(one) && in(way, 0, 7) ? now.landing(now.parties.get(one), way) : BAD;
    }

    long floor(int what) {
        long tiles = 0;
        for (int t = 0; t < 64; t++) {
            if (what == 0 ? now.red[t] : what == 1 ? now.hollow[t] : anybodyOn(t)) tiles |= 1L << t;
        }
        return in(what, 0, 2) ? tiles : NO;
    }

    // ---- texts

    int feed(int letter) {
        if (!in(letter, 0, 255)) return BAD;
        if (tape.length() == 160) return FULL;
        tape.append((char) letter);
        return tape.length();
    }

    int text() {
        if (texts.size() == 6) return FULL;
        String all = tape.toString();
        tape.setLength(0);
        int fault = fault(all);
        if (fault != NONE) return -100 - fault;
        texts.add(parts(all));
        return texts.size() - 1;
    }

    int force(int text) {
        if (!in(text, 0, texts.size() - 1)) return BAD;
        int was = now.rule;
        now.rule = text;
        return was;
    }

    // ---- minutes, calls

    int minute() { return now.minute == 999 ? STATE : now.pass(null); }

    int run(int one, int n, int what) {
        if (!one(one) || !in(n, 0, 40) || !in(what, 0, 3)) return BAD;
        Floor then = now.after(n);
        Party p = then.parties.get(one);
        return what == 0 ? p.on : what == 1 ? p.weary : what == 2 ? then.found(p) : then.howMany(1);
    }

    int call(int f, int n, int what) {
        if (!in(f, 0, 2) || !in(n, 0, 40) || !in(what, 0, 1)) return BAD;
        List<Integer> found = new ArrayList<>();
        for (Floor then = now; found.size() <= n; then = then.after(1)) found.add(then.howMany(f));
        int most = Collections.max(found);
        return what == 0 ? found.indexOf(most) : most;
    }

    int meet(int one, int other) {
        if (!one(one) || !one(other) || one == other) return BAD;
        Floor then = now;
        for (int k = 0; k <= 60; k++, then = then.after(1)) {
            if (then.parties.get(one).on == then.parties.get(other).on) return k;
        }
        return NONE;
    }

    // ---- what would be best

    int[] far(int one) {
        Party p = now.parties.get(one);
        int[] far = new int[64];
        Arrays.fill(far, NONE);
        far[p.on] = 0;
        List<Integer> line = new ArrayList<>(List.of(p.on));
        for (int i = 0; i < line.size(); i++) {
            for (int way = 0; way < 8; way++) {
                int to = now.landing(p, line.get(i), way);
                if (to != NONE && far[to] == NONE) {
                    far[to] = far[line.get(i)] + 1;
                    line.add(to);
                }
            }
        }
        return far;
    }

    long reached(int one, int n) {
        if (!one(one) || !in(n, 0, 63)) return NO;
        int[] far = far(one);
        long tiles = 0;
        for (int t = 0; t < 64; t++) if (far[t] != NONE && far[t] <= n) tiles |= 1L << t;
        return tiles;
    }

    int fewest(int one, int tile) { return one(one) && in(tile, 0, 63) ? far(one)[tile] : BAD; }

    int best(int f, int n, int what) {
        if (!in(f, 0, 2) || !in(n, 1, 20) || !in(what, 0, 5)) return BAD;
        int so = now.after(n).howMany(f), who = NONE;
        for (int i = 0; i < (what < 2 ? now.parties.size() : 64); i++) {
            Floor then;
            if (what < 2) {
                then = now.after(n, i);
            } else {
                if (now.hollow[i] || (what < 4 ? now.red[i] : anybodyOn(i))) continue;
                Floor other = now.copy();
                (what < 4 ? other.red : other.hollow)[i] = true;
                then = other.after(n);
            }
            if (then.howMany(f) > so) {
                so = then.howMany(f);
                who = i;
            }
        }
        return what % 2 == 0 ? who : so;
    }

    long lowest(int above, int below, int part) {
        for (int d = below; d > 1; d--) {
            if (above % d == 0 && below % d == 0) return lowest(above / d, below / d, part);
        }
        return part == 0 ? above : below;
    }

    long mean(int part) {
        if (!in(part, 0, 1) || now.parties.isEmpty()) return NO;
        return lowest(now.parties.stream().mapToInt(p -> p.weary).sum(), now.parties.size(), part);
    }

    // ---- tiles that were told

    int otherwise(Floor from, long[] sheet, int one) {
        Floor then = from;
        for (int k = 0; k < sheet.length; k++) {
            then = then.after(1);
            if (then.parties.get(one).on != sheet[k]) return k;
        }
        return NONE;
    }

    int tells(int sheet, int one, int what) {
        if (!in(sheet, 0, 3) || !one(one) || !in(what, 0, 6)) return BAD;
        if (sheets[sheet] == null) return -11;
        if (sheets[sheet].length > 20) return BAD;
        if (what == 0) return otherwise(now, sheets[sheet], one);
        int many = what == 1 ? 6 : what == 2 ? 10 : what < 5 ? 100 : what == 5 ? texts.size() : now.parties.size();
        List<Integer> so = new ArrayList<>();
        for (int v = 0; v < many; v++) {
            Floor other = now.copy();
            Party p = other.parties.get(one);
            if (what == 1) other.parties.set(one, ofKind(v, p.number, p.on, p.weary));
            if (what == 2) p.number = v;
            if (what == 3 || what == 4) p.weary = v;
            if (what == 5) other.rule = v;
            if (otherwise(other, sheets[sheet], what == 6 ? v : one) == NONE) so.add(v);
        }
        if (what == 3) return so.size();
        if (what == 4) return so.isEmpty() ? NONE : so.get(0);
        return so.stream().mapToInt(v -> 1 << v).sum();
    }

    long stood(int sheet, int one) {
        if (tells(sheet, one, 0) < NONE) return NO;
        long tiles = 0;
        for (int t = 0; t < 64; t++) {
            Floor other = now.copy();
            other.parties.get(one).on = t;
            if (!now.hollow[t] && otherwise(other, sheets[sheet], one) == NONE) tiles |= 1L << t;
        }
        return tiles;
    }

    int film(int sheet, int one, int n) {
        if (!in(sheet, 0, 3) || !one(one) || !in(n, 0, 20)) return BAD;
        sheets[sheet] = new long[n];
        sorts[sheet] = 0;
        for (int k = 0; k < n; k++) sheets[sheet][k] = now.after(k + 1).parties.get(one).on;
        return n;
    }

    int drawn(int seed, int one, int n) {
        if (!one(one) || !in(n, 0, 40)) return BAD;
        Floor f = now.copy();
        Party p = f.parties.get(one);
        int z = seed;
        for (int k = 0; k < n; k++) {
            z = z * 1103515245 + 12345;
            int to = f.landing(p, (z >>> 9) % 8);
            if (to != NONE) p.on = to;
        }
        return p.on;
    }

    long chance(int seed, int m, int one, int part) {
        if (!in(m, 1, 40) || !one(one) || !in(part, 0, 1)) return NO;
        int black = 0;
        for (int k = 0; k < m; k++) {
            int t = drawn(seed + k, one, 8);
            if ((t % 8 + t / 8) % 2 == 1 && !now.red[t]) black++;
        }
        return lowest(black, m, part);
    }

    int image() {
        kept = now.copy();
        return kept.parties.size();
    }

    int back() {
        if (kept == null) return STATE;
        now = kept.copy();
        return now.parties.size();
    }

    int count(int what) {
        return switch (what) {
            case 0 -> now.parties.size();
            case 1 -> now.howManyHollow();
            case 2 -> now.minute;
            case 3 -> texts.size();
            case 4 -> tape.length();
            case 5 -> now.rule;
            default -> BAD;
        };
    }

    // ---- the host: rows as the machine's own, so that it tells itself what it refuses

    int sheet(int sheet, int sort, int n) {
        if (!in(sheet, 0, 3) || !in(sort, -1, 2)) return BAD;
        if (sort != -1 && n > 40) return BAD;
        if (sort != -1 && n < 0) return -14;
        sorts[sheet] = sort;
        sheets[sheet] = sort == -1 ? null : new long[n];
        return 1;
    }

    int cell(int sheet, int i, int v) {
        if (!in(sheet, 0, 3)) return BAD;
        if (sheets[sheet] == null) return -11;
        try {
            sheets[sheet][i] = sorts[sheet] == 0 ? (byte) v : sorts[sheet] == 1 ? (short) v : v;
            return 1;
        } catch (ArrayIndexOutOfBoundsException e) {
            return -12;
        }
    }

    int copy(int sheet, int i, int other, int j, int n) {
        if (!in(sheet, 0, 3) || !in(other, 0, 3)) return BAD;
        if (sheets[sheet] == null || sheets[other] == null) return -11;
        if (sorts[sheet] != sorts[other]) return -13;
        try {
            System.arraycopy(sheets[sheet], i, sheets[other], j, n);
            return n;
        } catch (IndexOutOfBoundsException e) {
            return -12;
        }
    }

    int suits(int sheet, int sort, int from, int n) {
        if (!in(sheet, 0, 3) || !in(sort, 0, 2) || !in(n, 0, 5)) return BAD;
        if (sheets[sheet] != null && sorts[sheet] != sort) return -13;
        if (sheets[sheet] == null) return -11;
        int came = 0;
        try {
            for (int k = 0; k < n; k++) {
                int a = (int) sheets[sheet][from + 3 * k], b = (int) sheets[sheet][from + 3 * k + 1];
                if (party(a, b, (int) sheets[sheet][from + 3 * k + 2]) >= 0) came++;
            }
            return came;
        } catch (ArrayIndexOutOfBoundsException e) {
            return -12;
        }
    }

    int taken(int one, int k) {
        if (!in(k, 0, 5)) return BAD;
        if (!one(one)) return -11;
        Party p = now.parties.get(one);
        List<Predicate<Party>> tests = List.of(q -> true, q -> q instanceof Advocate, q -> q instanceof Clerk,
            q -> q instanceof Robed, q -> q instanceof Old, q -> q instanceof Washer);
        return tests.get(k).test(p) ? p.number : -13;
    }
}
