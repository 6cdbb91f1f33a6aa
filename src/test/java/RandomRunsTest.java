import java.util.ArrayList;
import java.util.List;
import java.util.Random;

/** The same random calls on the program and on PlainTiles: each answer must be the same. Seeds are fixed. */
public final class RandomRunsTest {
    private static final int RUNS = 320, CALLS = 500, TEXTS = 6000;

    private final Random random;
    private final TilesOfLaw x = new TilesOfLaw();
    private final PlainTiles y = new PlainTiles();
    private final List<String> log = new ArrayList<>();
    private int calls;

    private RandomRunsTest(long seed) {
        random = new Random(seed);
    }

    public static void main(String[] args) {
        int wrong = 0;
        for (int run = 0; run < RUNS; run++) {
            RandomRunsTest test = new RandomRunsTest(run);
            if (!test.holds()) {
                wrong++;
                System.out.println("run " + run + ":");
                for (String line : test.log.subList(Math.max(0, test.log.size() - 40), test.log.size())) {
                    System.out.println("  " + line);
                }
                if (wrong == 3) break;
            }
        }
        for (int seed = 0; seed < TEXTS && wrong < 3; seed++) {
            RandomRunsTest test = new RandomRunsTest(-1 - seed);
            if (!test.readsAlike()) {
                wrong++;
                System.out.println("texts " + seed + ": " + test.log.get(test.log.size() - 1));
            }
        }
        System.out.println("random runs: " + (wrong == 0 ? "all alike" : wrong + " unlike"));
        if (wrong != 0) System.exit(1);
    }

    /** Five texts (or as many as 512 calls take) on a new object, and what those that have no fault tell of one party. */
    private boolean readsAlike() {
        int number = random.nextInt(10), on = random.nextInt(64);
        x.party(0, number, on);
        y.party(0, number, on);
        for (int k = 0; k < 5; k++) {
            String text = random.nextInt(4) == 0 ? tokens()
                : "turns " + e(4) + ";tires " + e(4) + ";\nrests " + e(4) + " ; ";
            if (random.nextBoolean()) text = spoiled(text);
            calls += text.length();
            if (calls > CALLS) return true;
            for (int i = 0; i < text.length(); i++) {
                x.feed(text.charAt(i));
                y.feed(text.charAt(i));
            }
            int read = y.text();
            if (!same("text \"" + text + "\"", x.text(), read)) return false;
            if (read > 0) {
                x.force(read);
                y.force(read);
                for (int what = 7; what < 10; what++) {
                    if (!same("\"" + text + "\" tells " + what, x.told(0, what), y.told(0, what))) return false;
                }
            }
        }
        return true;
    }

    // Whatever comes: tokens as they fall, behind a good beginning at times.
    private String tokens() {
        String[] all = {"(", ")", ";", "+", "-", "*", "<", "=", "not ", " and ", " or ", " turns ", " tires ", " rests ", "7",
            "12", " row ", " weary ", "-", "(", ")", "1"};
        StringBuilder text = new StringBuilder(random.nextBoolean() ? "turns " : "");
        int many = random.nextInt(30);
        for (int k = 0; k < many; k++) text.append(all[random.nextInt(all.length)]);
        return text.toString();
    }

    private boolean holds() {
        int parties = random.nextInt(6);
        for (int k = 0; k < parties; k++) {
            int kind = random.nextInt(6), number = random.nextInt(10), on = random.nextInt(64);
            if (!same("party " + kind + " " + number + " " + on, x.party(kind, number, on), y.party(kind, number, on))) {
                return false;
            }
        }
        for (int k = 0; calls < CALLS - 20 && k < CALLS; k++) {
            if (!step()) return false;
        }
        return true;
    }

    private boolean same(String call, long a, long b) {
        calls++;
        log.add(call + ": " + a + (a == b ? "" : ", but plainly " + b));
        return a == b;
    }

    // ---- arguments: mostly such as the document allows, at times just beyond, at times anything

    private int upTo(int least, int most) {
        int dice = random.nextInt(40);
        if (dice == 0) return least - 1;
        if (dice == 1) return most + 1;
        if (dice == 2) {
            int[] odd = {Integer.MIN_VALUE, Integer.MAX_VALUE, -1, 1 << 16, 256, random.nextInt()};
            return odd[random.nextInt(odd.length)];
        }
        return least + random.nextInt(most - least + 1);
    }

    private int one() {
        return random.nextInt(40) == 0 ? upTo(0, 5) : upTo(0, Math.max(0, y.now.parties.size() - 1));
    }

    private int tile() {
        return upTo(0, 63);
    }

    private int seed() {
        return random.nextInt(4) == 0 ? Integer.MAX_VALUE - random.nextInt(20) : random.nextInt();
    }

    private boolean step() {
        switch (random.nextInt(34)) {
            case 0: case 1: case 2: {
                int what = upTo(0, 5);
                int of = what > 2 && what < 6 ? one() : tile();
                int most = what == 0 ? 999 : what == 3 ? 9 : what == 4 ? 63 : what == 5 ? 99 : 1;
                int v = upTo(0, most);
                if (what == 5 && random.nextInt(3) == 0) v = upTo(3, 7);
                if (what == 5 && random.nextInt(3) == 0) v = upTo(47, 52);
                if (what == 0 && random.nextInt(4) == 0) v = upTo(997, 999);
                return same("set " + what + " " + of + " " + v, x.set(what, of, v), y.set(what, of, v));
            }
            case 3: {
                int kind = upTo(0, 5), number = upTo(0, 9), on = tile();
                if (random.nextInt(3) != 0) return image();
                return same("party " + kind + " " + number + " " + on, x.party(kind, number, on), y.party(kind, number, on));
            }
            case 4: case 5: {
                int what = upTo(0, 11);
                int of = what == 1 || what == 2 || what == 11 ? tile() : one();
                return same("told " + of + " " + what, x.told(of, what), y.told(of, what));
            }
            case 6: {
                int one = one(), way = upTo(0, 7);
                return same("leap " + one + " " + way, x.leap(one, way), y.leap(one, way));
            }
            case 7: {
                int what = upTo(0, 2);
                return same("floor " + what, x.floor(what), y.floor(what));
            }
            case 8: case 9:
                return text();
            case 10: case 11: {
                int t = upTo(0, y.texts.size() - 1);
                return same("force " + t, x.force(t), y.force(t));
            }
            case 12:
                return same("minute", x.minute(), y.minute());
            case 13: {
                int one = one(), n = upTo(0, 40), what = upTo(0, 3);
                return same("run " + one + " " + n + " " + what, x.run(one, n, what), y.run(one, n, what));
            }
            case 14: {
                int f = upTo(0, 2), n = upTo(0, 40), what = upTo(0, 1);
                return same("call " + f + " " + n + " " + what, x.call(f, n, what), y.call(f, n, what));
            }
            case 15: {
                int one = one(), other = one();
                return same("meet " + one + " " + other, x.meet(one, other), y.meet(one, other));
            }
            case 16: {
                int one = one(), n = random.nextBoolean() ? upTo(0, 6) : upTo(0, 63);
                return same("reached " + one + " " + n, x.reached(one, n), y.reached(one, n));
            }
            case 17: {
                int one = one(), tile = tile();
                return same("fewest " + one + " " + tile, x.fewest(one, tile), y.fewest(one, tile));
            }
            case 18: case 19: {
                int f = upTo(0, 2), n = upTo(1, 20), what = upTo(0, 5);
                return same("best " + f + " " + n + " " + what, x.best(f, n, what), y.best(f, n, what));
            }
            case 20: {
                int part = upTo(0, 1);
                return same("mean " + part, x.mean(part), y.mean(part));
            }
            case 21: case 22: case 23:
                return tells();
            case 24: {
                int sheet = upTo(0, 3), one = one(), n = upTo(0, 20);
                return same("film " + sheet + " " + one + " " + n, x.film(sheet, one, n), y.film(sheet, one, n));
            }
            case 25: {
                int seed = seed(), one = one(), n = upTo(0, 40);
                return same("drawn " + seed + " " + one + " " + n, x.drawn(seed, one, n), y.drawn(seed, one, n));
            }
            case 26: {
                int seed = seed(), m = upTo(1, 40), one = one(), part = upTo(0, 1);
                return same("chance " + seed + " " + m + " " + one + " " + part, x.chance(seed, m, one, part),
                    y.chance(seed, m, one, part));
            }
            case 27:
                return image();
            case 28: {
                int what = upTo(0, 5);
                return same("count " + what, x.count(what), y.count(what));
            }
            case 29: {
                int sheet = upTo(0, 3), sort = upTo(-1, 2), n = upTo(0, 40);
                return same("sheet " + sheet + " " + sort + " " + n, x.sheet(sheet, sort, n), y.sheet(sheet, sort, n));
            }
            case 30: {
                int sheet = upTo(0, 3), i = upTo(0, 24), v = random.nextInt(4) == 0 ? random.nextInt() : upTo(0, 63);
                return same("cell " + sheet + " " + i + " " + v, x.cell(sheet, i, v), y.cell(sheet, i, v));
            }
            case 31: {
                int sheet = upTo(0, 3), i = upTo(0, 12), other = upTo(0, 3), j = upTo(0, 12), n = upTo(0, 12);
                return same("copy " + sheet + " " + i + " " + other + " " + j + " " + n, x.copy(sheet, i, other, j, n),
                    y.copy(sheet, i, other, j, n));
            }
            case 32:
                return suits();
            default: {
                int one = one(), k = upTo(0, 5);
                return same("taken " + one + " " + k, x.taken(one, k), y.taken(one, k));
            }
        }
    }

    private boolean image() {
        if (random.nextInt(3) == 0) return same("image", x.image(), y.image());
        return same("back", x.back(), y.back());
    }

    // A filmed sheet, perhaps turned elsewhere since, and all that it tells.
    private boolean tells() {
        int sheet = upTo(0, 3), one = one();
        if (random.nextBoolean()) {
            int n = upTo(0, 12);
            if (!same("film " + sheet + " " + one + " " + n, x.film(sheet, one, n), y.film(sheet, one, n))) return false;
            if (random.nextInt(5) == 0) {
                int i = upTo(0, 12), v = random.nextInt(64);
                if (!same("cell " + sheet + " " + i + " " + v, x.cell(sheet, i, v), y.cell(sheet, i, v))) return false;
            }
        }
        int what = upTo(0, 7);
        if (what == 7) return same("stood " + sheet + " " + one, x.stood(sheet, one), y.stood(sheet, one));
        return same("tells " + sheet + " " + one + " " + what, x.tells(sheet, one, what), y.tells(sheet, one, what));
    }

    // A row of kinds, numbers and tiles; what came goes again by an image, for else the floor is soon full.
    private boolean suits() {
        int sheet = upTo(0, 3), sort = upTo(0, 2), from = upTo(0, 9), n = upTo(0, 5);
        if (random.nextBoolean()) {
            if (!same("sheet " + sheet + " " + sort + " 15", x.sheet(sheet, sort, 15), y.sheet(sheet, sort, 15))) return false;
            for (int i = 0; i < 15; i++) {
                int v = upTo(0, i % 3 == 0 ? 5 : i % 3 == 1 ? 9 : 63);
                if (!same("cell " + sheet + " " + i + " " + v, x.cell(sheet, i, v), y.cell(sheet, i, v))) return false;
            }
        }
        String call = "suits " + sheet + " " + sort + " " + from + " " + n;
        return same(call, x.suits(sheet, sort, from, n), y.suits(sheet, sort, from, n))
            && same("floor 2", x.floor(2), y.floor(2));
    }

    // ---- texts

    private boolean text() {
        String text = "turns " + e(3) + ";tires " + e(2) + ";\nrests " + e(2) + " ; ";
        if (random.nextInt(3) == 0) text = spoiled(text);
        if (random.nextInt(50) == 0) text = text + " ".repeat(170 - Math.min(170, text.length()));
        if (text.length() > 160 && random.nextInt(5) != 0) return true;
        // A byte is a call too, and what comes behind the 512th is free.
        if (calls + text.length() > CALLS) return true;
        for (int k = 0; k < text.length(); k++) {
            int a = x.feed(text.charAt(k)), b = y.feed(text.charAt(k));
            if (!same("feed " + (int) text.charAt(k), a, b)) return false;
        }
        if (random.nextInt(8) == 0) {
            int letter = upTo(0, 255);
            if (!same("feed " + letter, x.feed(letter), y.feed(letter))) return false;
        }
        return same("text", x.text(), y.text());
    }

    private String e(int depth) {
        String e = and(depth);
        for (int k = 0; k < 3 && random.nextInt(6) == 0; k++) e += " or " + and(depth);
        return e;
    }

    private String and(int depth) {
        String e = not(depth);
        for (int k = 0; k < 3 && random.nextInt(6) == 0; k++) e += " and " + not(depth);
        return e;
    }

    private String not(int depth) {
        if (random.nextInt(8) == 0) return "not " + not(depth);
        return sum(depth) + (random.nextInt(5) != 0 ? "" : (random.nextBoolean() ? "<" : "=") + sum(depth));
    }

    private String sum(int depth) {
        String e = term(depth);
        for (int k = 0; k < 3 && random.nextInt(3) == 0; k++) e += (random.nextBoolean() ? " + " : "-") + term(depth);
        return e;
    }

    private String term(int depth) {
        String e = part(depth);
        for (int k = 0; k < 3 && random.nextInt(5) == 0; k++) e += "*" + part(depth);
        return e;
    }

    private String part(int depth) {
        int dice = random.nextInt(12);
        if (dice == 0) return "-" + part(depth);
        if (dice < 3 && depth > 0) return "(" + e(depth - 1) + ")";
        if (dice < 7) return String.valueOf(random.nextInt(dice == 3 ? 10000 : 9));
        return PlainTiles.NAMES.get(random.nextInt(6));
    }

    private String spoiled(String text) {
        int at = random.nextInt(text.length() + 1);
        String[] odd = {"(", ")", ";", "+", "-", "*", "<", "=", "not ", "and ", "or ", "turns ", "7", "12345", "x", "@",
            "T", "\t", "\u00e9", "row", "((((((1))))))", "------1", "not not not not not ", ""};
        String in = odd[random.nextInt(odd.length)];
        int cut = random.nextInt(3);
        return text.substring(0, at) + in + (cut == 0 ? "" : text.substring(Math.min(text.length(), at + cut - 1)));
    }
}
