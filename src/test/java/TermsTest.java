/** The document's Terms, sentence by sentence: each that names a boundary has a test that bears its words. */
public final class TermsTest extends Checks {
    private static final int[][] PARTY = {{1, 2}, {2, 1}, {2, -1}, {1, -2}, {-1, -2}, {-2, -1}, {-2, 1}, {-1, 2}};
    private static final int[][] ADVOCATE = {{2, 2}, {2, -2}, {-2, -2}, {-2, 2}, {-1, -2}, {-2, -1}, {-2, 1}, {-1, 2}};
    private static final int[][] CLERK = {{0, 1}, null, {1, 0}, null, {0, -1}, null, {-1, 0}, null};
    private static final int[][][] LEAPS = {PARTY, ADVOCATE, CLERK, ADVOCATE, CLERK, PARTY};

    public static void main(String[] args) {
        tiles();
        columnsAndRows();
        black();
        red();
        hollow();
        minute();
        fiveParties();
        kinds();
        numbers();
        severalOnOne();
        weary();
        cutTowardZero();
        leaps();
        hollowLeaps();
        robed();
        old();
        washer();
        moduloEight();
        tiresBound();
        restsBound();
        found();
        tape();
        wordsAsLongAsCanBe();
        numbersAsLongAsCanBe();
        signs();
        blanks();
        noBlanks();
        endsTooEarly();
        firstFault();
        whatCanStand();
        fiveOpen();
        sixTexts();
        names();
        keysAreNoNames();
        wraps();
        truth();
        textBounds();
        textZero();
        wearyAtMost();
        wearyAtLeast();
        toldAsAllIsThen();
        minuteIsOneMore();
        minutesInThought();
        call();
        meet();
        reached();
        fewest();
        stand();
        mend();
        hollowIt();
        told();
        drawn();
        inSeeds();
        mean();
        image();
        sheets();
        end("terms");
    }

    private static TilesOfLaw alone(int kind, int number, int on) {
        TilesOfLaw x = new TilesOfLaw();
        due("alone", x.party(kind, number, on), 0);
        return x;
    }

    /** By a text of these parts, alone. */
    private static TilesOfLaw alone(int kind, int number, int on, String text) {
        TilesOfLaw x = ruled(text);
        due("alone", x.party(kind, number, on), 0);
        return x;
    }

    // ---- 1: tiles, parties

    private static void tiles() {
        sentence("TILES 0 .. 63");
        TilesOfLaw x = alone(0, 0, 0);
        for (int t : new int[] {0, 63}) {
            due("set red " + t, x.set(1, t, 1), 0);
            due("told red " + t, x.told(t, 1), 1);
            due("set on " + t, x.set(4, 0, t), 0);
            due("told on", x.told(0, 4), t);
            due("who is on", x.told(t, 11), 1);
            due("fewest", x.fewest(0, t), 0);
            due("party", x.party(0, 0, t), t == 0 ? 1 : 2);
        }
        for (int t : beyond(0, 63)) {
            due("set red " + t, x.set(1, t, 1), BAD);
            due("set hollow " + t, x.set(2, t, 1), BAD);
            due("set on " + t, x.set(4, 0, t), BAD);
            due("told red " + t, x.told(t, 1), -1000);
            due("told hollow " + t, x.told(t, 2), -1000);
            due("who is on " + t, x.told(t, 11), -1000);
            due("fewest " + t, x.fewest(0, t), BAD);
            due("party " + t, x.party(0, 0, t), BAD);
        }
    }

    private static void columnsAndRows() {
        sentence("TILE modulo 8 is the COLUMN, TILE by 8 (cut) the ROW");
        TilesOfLaw x = alone(0, 0, 0, parts("0", "column", "row"));
        for (int row = 0; row < 8; row++) {
            for (int column = 0; column < 8; column++) {
                x.set(4, 0, 8 * row + column);
                due("column of " + (8 * row + column), x.told(0, 8), column);
                due("row of " + (8 * row + column), x.told(0, 9), row);
            }
        }
    }

    private static void black() {
        sentence("BLACK, if both together are odd, else WHITE");
        String[] floor = {"01010101", "10101010", "01010101", "10101010", "01010101", "10101010", "01010101", "10101010"};
        TilesOfLaw x = alone(0, 0, 0);
        for (int t = 0; t < 64; t++) {
            x.set(4, 0, t);
            due("found on " + t, x.told(0, 10), floor[t / 8].charAt(t % 8) - '0');
        }
    }

    private static void red() {
        sentence("some are RED (neither)");
        TilesOfLaw x = alone(0, 0, 0);
        long all = 0;
        for (int t = 0; t < 64; t++) {
            x.set(4, 0, t);
            due("red " + t, x.set(1, t, 1), 0);
            all |= 1L << t;
            due("bit " + t, x.floor(0), all);
            due("found on " + t, x.told(0, 10), 2);
        }
        due("all of them", x.floor(0), -1L);
        due("no more", x.set(1, 63, 0), 1);
        due("all but the last", x.floor(0), Long.MAX_VALUE);
        due("found on the last", x.told(0, 10), 0);
    }

    private static void hollow() {
        sentence("some HOLLOW (none at first; sets of TILES are told as longs: bit c for TILE c)");
        TilesOfLaw x = new TilesOfLaw();
        due("none at first", x.floor(1), 0);
        due("none", x.count(1), 0);
        for (int t = 0; t < 64; t++) {
            due("hollow " + t, x.set(2, t, 1), 0);
            due("bits", x.floor(1), t == 63 ? -1L : (1L << t + 1) - 1);
            due("how many", x.count(1), t + 1);
        }
        due("nowhere to come", x.party(0, 0, 40), BAD);
        due("one no more", x.set(2, 40, 0), 1);
        due("bits", x.floor(1), ~(1L << 40));
        due("there", x.party(0, 0, 40), 0);
        due("63 are hollow", x.count(1), 63);
        due("none to leap to", x.reached(0, 63), 1L << 40);
    }

    private static void minute() {
        sentence("MINUTE (0 .. 999; 0 at first)");
        TilesOfLaw x = new TilesOfLaw();
        due("at first", x.count(2), 0);
        due("999", x.set(0, 0, 999), 0);
        due("999", x.told(0, 0), 999);
        due("1000", x.set(0, 0, 1000), BAD);
        due("-1", x.set(0, 0, -1), BAD);
        due("still 999", x.count(2), 999);
        due("0", x.set(0, 0, 0), 999);
    }

    private static void fiveParties() {
        sentence("PARTIES (5 at most, numbered from 0)");
        TilesOfLaw x = new TilesOfLaw();
        for (int k = 0; k < 5; k++) {
            due("before", x.leap(k, 0), BAD);
            due("comes", x.party(k, k, k), k);
            due("is there", x.told(k, 6), k);
            due("none behind it", x.told(k + 1, 6), -1000);
        }
        due("the sixth", x.party(0, 0, 0), FULL);
        due("five", x.count(0), 5);
        due("the last of five", x.run(4, 0, 0), 4);
        due("none such", x.run(5, 0, 0), BAD);
    }

    private static void kinds() {
        sentence("have a KIND: 0 PARTY .. 5 WASHER");
        for (int kind = 0; kind < 6; kind++) due("kind", alone(kind, 0, 0).told(0, 6), kind);
        for (int kind : beyond(0, 5)) due("kind " + kind, new TilesOfLaw().party(kind, 0, 0), BAD);
    }

    private static void numbers() {
        sentence("a NUMBER (0 .. 9)");
        TilesOfLaw x = alone(0, 0, 0);
        due("0", x.told(0, 3), 0);
        due("another of 9", x.party(0, 9, 0), 1);
        due("9", x.told(1, 3), 9);
        due("to 9", x.set(3, 0, 9), 0);
        due("to 10", x.set(3, 0, 10), BAD);
        due("to -1", x.set(3, 0, -1), BAD);
        due("to 0", x.set(3, 0, 0), 9);
        due("another of 10", x.party(0, 10, 0), BAD);
        due("another of -1", x.party(0, -1, 0), BAD);
    }

    private static void severalOnOne() {
        sentence("stand ON a TILE (several may on one)");
        TilesOfLaw x = new TilesOfLaw();
        for (int k = 0; k < 5; k++) due("comes", x.party(k, 0, 63), k);
        due("all on one", x.told(63, 11), 31);
        due("one tile", x.floor(2), Long.MIN_VALUE);
        due("nobody elsewhere", x.told(62, 11), 0);
    }

    private static void weary() {
        sentence("are WEARY (0 .. 99; 0 as one comes)");
        TilesOfLaw x = alone(0, 0, 0);
        due("as it comes", x.told(0, 5), 0);
        due("99", x.set(5, 0, 99), 0);
        due("100", x.set(5, 0, 100), BAD);
        due("-1", x.set(5, 0, -1), BAD);
        due("the next is not", x.party(0, 0, 0), 1);
        due("as it comes", x.told(1, 5), 0);
        due("0", x.set(5, 0, 0), 99);
        // One that comes where a weary one went is not weary.
        TilesOfLaw y = new TilesOfLaw();
        y.image();
        y.party(0, 0, 0);
        y.set(5, 0, 99);
        y.back();
        y.party(0, 0, 0);
        due("anew", y.told(0, 5), 0);
    }

    private static void cutTowardZero() {
        sentence("Quotients are cut toward 0");
        for (int v = 0; v < 8; v++) {
            TilesOfLaw x = ruled(parts("0", "" + v, "" + v));
            x.party(1, 0, 0);
            x.party(3, 4, 0);
            due("advocate tires by " + v, x.told(0, 8), v / 2);
            due("robed tires by " + v, x.told(1, 8), v / 2 + 4);
            due("robed rests by " + v, x.told(1, 9), v / 2);
        }
    }

    // ---- 1: leaps

    private static void leaps() {
        sentence("None beyond the floor");
        for (int kind = 0; kind < 6; kind++) {
            for (int t = 0; t < 64; t++) {
                // Number 9: no way of the robed one is ruled out.
                TilesOfLaw x = alone(kind, 9, t);
                for (int way = 0; way < 8; way++) {
                    due("kind " + kind + " on " + t + " by " + way, x.leap(0, way), landing(kind, t, way));
                }
            }
        }
    }

    private static int landing(int kind, int tile, int way) {
        int[] by = LEAPS[kind][way];
        if (by == null) return NONE;
        int column = tile % 8 + by[0], row = tile / 8 + by[1];
        return column < 0 || column > 7 || row < 0 || row > 7 ? NONE : 8 * row + column;
    }

    private static void hollowLeaps() {
        sentence("none to a HOLLOW one");
        for (int kind = 0; kind < 6; kind++) {
            for (int way = 0; way < 8; way++) {
                int to = landing(kind, 27, way);
                if (to == NONE) continue;
                TilesOfLaw x = alone(kind, 9, 27, parts("" + way, "20", "7"));
                x.set(5, 0, 40);
                due("free", x.leap(0, way), to);
                x.set(2, to, 1);
                String call = "kind " + kind + " by " + way;
                due(call, x.leap(0, way), NONE);
                due(call + ", a minute", x.run(0, 1, 0), 27);
                due(call + ", reached", x.reached(0, 1) >>> to & 1, 0);
                int less = kind == 2 ? 0 : kind == 3 ? 3 : kind == 4 ? 9 : kind == 5 ? 14 : 7;
                due(call + ", it rests", x.run(0, 1, 1), 40 - less);
                // Others that are hollow do not matter.
                for (int t = 0; t < 64; t++) if (t != 27) x.set(2, t, t == to ? 0 : 1);
                due(call + ", all others hollow", x.leap(0, way), to);
            }
        }
    }

    private static void robed() {
        sentence("ROBED: as an ADVOCATE, but none by the WAY that is its NUMBER");
        for (int number = 0; number < 10; number++) {
            TilesOfLaw x = alone(3, number, 27);
            for (int way = 0; way < 8; way++) {
                due("number " + number + " by " + way, x.leap(0, way), way == number ? NONE : landing(1, 27, way));
            }
        }
        // The NUMBER as it is now, not as it came.
        TilesOfLaw x = alone(3, 0, 27);
        x.set(3, 0, 7);
        due("by 0, now", x.leap(0, 0), landing(1, 27, 0));
        due("by 7, now", x.leap(0, 7), NONE);
    }

    private static void old() {
        sentence("OLD: as a CLERK, in even MINUTES, else none");
        TilesOfLaw x = alone(4, 0, 27);
        for (int minute : new int[] {0, 1, 2, 3, 997, 998, 999}) {
            x.set(0, 0, minute);
            for (int way = 0; way < 8; way++) {
                due("minute " + minute + " by " + way, x.leap(0, way), minute % 2 == 0 ? landing(2, 27, way) : NONE);
            }
        }
        // In thought 999 is odd, 1000 is even, 1001 is odd.
        TilesOfLaw y = alone(4, 0, 24, parts("2", "0", "0"));
        y.set(0, 0, 999);
        for (int n = 0; n < 14; n++) due("from 999, " + n + " minutes", y.run(0, n, 0), 24 + n / 2);
    }

    private static void washer() {
        sentence("WASHER: as a PARTY, if WEARY is below 50, else none");
        TilesOfLaw x = alone(5, 0, 27);
        for (int weary : new int[] {0, 48, 49, 50, 51, 99}) {
            x.set(5, 0, weary);
            for (int way = 0; way < 8; way++) {
                due("weary " + weary + " by " + way, x.leap(0, way), weary < 50 ? landing(0, 27, way) : NONE);
            }
        }
    }

    private static void moduloEight() {
        sentence("LEAPS: v modulo 8 (0 or more) of all KINDS");
        int[][] ways = {{0, 0}, {7, 7}, {8, 0}, {9, 1}, {15, 7}, {16, 0}, {99, 3}, {-1, 7}, {-7, 1}, {-8, 0}, {-9, 7}, {-16, 0},
            {-99, 5}};
        for (int[] way : ways) {
            TilesOfLaw x = ruled(parts("" + way[0], "0", "0"));
            for (int kind = 0; kind < 5; kind++) {
                x.party(kind + 1, 0, 27);
                due("turns " + way[0] + " of kind " + (kind + 1), x.told(kind, 7), way[1]);
            }
            due("turns " + way[0], alone(0, 0, 27, parts("" + way[0], "0", "0")).told(0, 7), way[1]);
        }
    }

    private static void tiresBound() {
        sentence("TIRES 0 .. 99, else the bound: laid once, on what comes out");
        // Of all kinds by number 9: v, half, 1 more, half and 9, twice 1 more, 10 more.
        int[][] rows = {{0, 0, 0, 1, 9, 2, 10}, {1, 1, 0, 2, 9, 4, 11}, {48, 48, 24, 49, 33, 98, 58}, {49, 49, 24, 50, 33, 99, 59},
            {88, 88, 44, 89, 53, 99, 98}, {89, 89, 44, 90, 53, 99, 99}, {90, 90, 45, 91, 54, 99, 99},
            {97, 97, 48, 98, 57, 99, 99}, {98, 98, 49, 99, 58, 99, 99}, {99, 99, 49, 99, 58, 99, 99}};
        for (int[] row : rows) {
            for (int kind = 0; kind < 6; kind++) {
                TilesOfLaw x = alone(kind, 9, 27, parts("0", "" + row[0], "0"));
                due("kind " + kind + " by " + row[0], x.told(0, 8), row[kind + 1]);
                due("kind " + kind + " by " + row[0] + ", in a minute", x.run(0, 1, 1), row[kind + 1]);
            }
        }
    }

    private static void restsBound() {
        sentence("RESTS 0 .. 99, else the bound: laid once, on what comes out");
        // Of all kinds by number 9: v, v, none, half, 9, twice.
        int[][] rows = {{0, 0, 0, 0, 0, 9, 0}, {1, 1, 1, 0, 0, 9, 2}, {49, 49, 49, 0, 24, 9, 98}, {50, 50, 50, 0, 25, 9, 99},
            {98, 98, 98, 0, 49, 9, 99}, {99, 99, 99, 0, 49, 9, 99}};
        for (int[] row : rows) {
            for (int kind = 0; kind < 6; kind++) {
                // From corner 0 nobody leaps by way 5, clerks by no odd one.
                TilesOfLaw x = alone(kind, 9, 0, parts("5", "0", "" + row[0]));
                x.set(5, 0, 99);
                due("kind " + kind + " by " + row[0], x.told(0, 9), row[kind + 1]);
                due("kind " + kind + " by " + row[0] + ", in a minute", x.run(0, 1, 1), 99 - row[kind + 1]);
            }
        }
        TilesOfLaw old = alone(4, 0, 0);
        due("old of number 0", old.told(0, 9), 0);
    }

    private static void found() {
        sentence("FOUND (standing ON a TILE)");
        // By weary 0, 4 | 5, 49 | 50, 99: on white, on black, on red.
        int[][] white = {{0, 0, 0}, {1, 0, 0}, {0, 0, 0}, {1, 0, 0}, {0, 0, 0}, {0, 0, 2}};
        int[][] black = {{1, 1, 1}, {1, 1, 1}, {1, 1, 1}, {1, 1, 1}, {0, 0, 0}, {1, 1, 2}};
        int[] weary = {0, 4, 5, 49, 50, 99};
        for (int kind = 0; kind < 6; kind++) {
            TilesOfLaw x = alone(kind, 0, 0);
            for (int t : new int[] {3, 5}) x.set(1, 12 + t, 1);
            for (int w = 0; w < weary.length; w++) {
                x.set(5, 0, weary[w]);
                String call = "kind " + kind + " weary " + weary[w];
                for (int t : new int[] {0, 9, 54, 63}) {
                    x.set(4, 0, t);
                    due(call + " on white " + t, x.told(0, 10), white[kind][w / 2]);
                }
                for (int t : new int[] {1, 8, 7, 56}) {
                    x.set(4, 0, t);
                    due(call + " on black " + t, x.told(0, 10), black[kind][w / 2]);
                }
                // 15 was black, 17 was black: neither is now.
                for (int t : new int[] {15, 17}) {
                    x.set(4, 0, t);
                    due(call + " on red " + t, x.told(0, 10), 2);
                }
            }
        }
    }

    // ---- 1: texts

    private static void tape() {
        sentence("A TEXT is read from THE TAPE (160 bytes at most)");
        String text = parts("1", "2", "3");
        TilesOfLaw x = new TilesOfLaw();
        due("160 bytes", read(x, " ".repeat(160 - text.length()) + text), 1);
        feed(x, " ".repeat(159));
        due("159", x.count(4), 159);
        due("the last", x.feed(';'), 160);
        due("one more", x.feed(';'), FULL);
        due("as it was", x.count(4), 160);
        due("its fault, at the last byte", x.text(), -100 - 159);
        due("empty then", x.count(4), 0);
        due("blanks alone end too early", read(new TilesOfLaw(), " ".repeat(160)), -100 - 160);
        // A text of 161 bytes comes without its last: it ends too early.
        due("161 bytes", read(new TilesOfLaw(), " ".repeat(161 - text.length()) + text), -100 - 160);
    }

    private static void wordsAsLongAsCanBe() {
        sentence("TOKENS, each as long as can be: WORDS (a .. z)");
        due("turnsweary", read(new TilesOfLaw(), "turnsweary;"), -100);
        due("turns1", read(new TilesOfLaw(), "turns1;tires2;rests3;"), 1);
        due("rowor", read(new TilesOfLaw(), "turns rowor 1;"), -106);
        due("row or", read(new TilesOfLaw(), "turns row or 1;tires 1;rests 1;"), 1);
        due("notrow", read(new TilesOfLaw(), "turns notrow;"), -106);
        due("not row", read(new TilesOfLaw(), "turns not row;tires 1;rests 1;"), 1);
        due("not(row)", read(new TilesOfLaw(), "turns not(row)and(row)or 1;tires 1;rests 1;"), 1);
        due("a", read(new TilesOfLaw(), "a"), -100);
        due("z", read(new TilesOfLaw(), "z"), -100);
        for (String next : new String[] {"`", "{", "A", "Z", "@", "["}) {
            due("turns" + next, read(new TilesOfLaw(), "turns" + next), -105);
        }
        // Words that are none by one letter: another first, another last, one less, one more.
        String[] words = {"weary", "column", "row", "number", "minute", "worn", "turns", "tires", "rests", "or", "and", "not"};
        for (String word : words) {
            int last = word.length() - 1;
            String[] unlike = {"x" + word.substring(1), word.substring(0, last) + "x", word.substring(0, last), word.substring(1),
                word + "x", "x" + word, word + word, word.substring(0, 1) + "x" + word.substring(Math.min(2, last + 1)),
                word.toUpperCase(), word.substring(0, 1).toUpperCase() + word.substring(1)};
            for (String other : unlike) {
                due("1 " + other, read(new TilesOfLaw(), "turns 1 " + other + " 1;tires 1;rests 1;"), -108);
                due(other, read(new TilesOfLaw(), "turns " + other + " 1;"), -106);
                due(other + " ahead", read(new TilesOfLaw(), other + " 1;"), -100);
            }
        }
    }

    private static void numbersAsLongAsCanBe() {
        sentence("NUMBERS (as many digits as stand there, 4 at most)");
        TilesOfLaw x = new TilesOfLaw();
        due("1 digit", read(x, parts("0", "0", "9")), 1);
        due("4 digits", read(x, parts("9999", "0000", "0099")), 2);
        x.force(2);
        x.party(0, 0, 0);
        due("9999, bounded", x.told(0, 7), 3);
        due("0000", x.told(0, 8), 0);
        due("0099", x.told(0, 9), 99);
        for (String number : new String[] {"10000", "00000", "00001", "99999", "123456", "1".repeat(150)}) {
            due(number, read(x, "turns " + number), -106);
            due("1+" + number, read(x, "turns 1+" + number.substring(0, 5)), -108);
        }
        due("two by a blank", read(x, "turns 1234 5;"), -111);
        due("a word at once behind it", read(x, "turns 1234or 5;tires 9row;"), -122);
        for (String next : new String[] {"/", ":", "a"}) due("9" + next, read(x, "turns 9" + next), -107);
    }

    private static void signs() {
        sentence("SIGNS ( ) ; + - * < =");
        String all = "();+-*<=";
        for (int letter = 0; letter < 256; letter++) {
            // Ahead of all, nothing but a word, turns, can stand: whatever else comes is a fault at 0.
            TilesOfLaw x = new TilesOfLaw();
            boolean blank = letter == 32 || letter == 10;
            due("byte " + letter, read(x, (char) letter + "turns"), blank ? -106 : -100);
            // Behind a one: signs that can stand there go on, and the fault is at the end.
            boolean sign = all.indexOf(letter) > 2 || letter == ';';
            boolean digit = letter >= '0' && letter <= '9';
            due("1 and byte " + letter, read(x, "turns 1" + (char) letter), digit || sign || blank ? -108 : -107);
        }
    }

    private static void blanks() {
        sentence("blanks (32, 10) may stand between");
        String text = "turns ( 1 + - weary ) * 2 < 3 or not row and 4 = 5 ; tires 6 ; rests 7 ;";
        due("each by one", read(new TilesOfLaw(), text), 1);
        due("by lines", read(new TilesOfLaw(), text.replace(' ', '\n')), 1);
        due("two each", read(new TilesOfLaw(), text.replace(" ", " \n")), 1);
        for (int letter : new int[] {0, 9, 11, 12, 13, 31, 33, 127, 133, 160, 255}) {
            due("byte " + letter, read(new TilesOfLaw(), "turns" + (char) letter + "1;tires 1;rests 1;"), -105);
        }
    }

    private static void noBlanks() {
        sentence("blanks may stand between: they need not");
        due("none", read(new TilesOfLaw(), "turns(1+-weary)*2<3or(not(row))and 4=5;tires6;rests7;"), 1);
        due("within a word", read(new TilesOfLaw(), "tur ns"), -100);
        due("within a number", read(new TilesOfLaw(), "turns 1 2;"), -108);
    }

    private static void endsTooEarly() {
        sentence("FAULT: the text's size, if it ends too early");
        String whole = "turns not - ( 1 + 2 ) * row < 3 and weary or 4 ; tires 5 ; rests 6 ;";
        for (int size = 0; size < whole.length(); size++) {
            // Cut behind a blank or a sign, or behind a whole word or number: nothing but the end can be at fault.
            boolean within = size > 0 && Character.isLetter(whole.charAt(size - 1)) && Character.isLetter(whole.charAt(size));
            if (within) continue;
            due("\"" + whole.substring(0, size) + "\"", read(new TilesOfLaw(), whole.substring(0, size)), -100 - size);
            due("with blanks behind", read(new TilesOfLaw(), whole.substring(0, size) + " \n "), -103 - size);
        }
        due("whole", read(new TilesOfLaw(), whole), 1);
        due("whole, with blanks behind", read(new TilesOfLaw(), whole + " \n "), 1);
    }

    private static void firstFault() {
        sentence("FAULT: the place of the first byte of the first TOKEN that can't stand there");
        due("an unlike one, then worse", read(new TilesOfLaw(), "turns 1 2 @ 12345 foo"), -108);
        due("a byte, then worse", read(new TilesOfLaw(), "turns @ 1 2"), -106);
        due("a word, then worse", read(new TilesOfLaw(), "turns foo @"), -106);
        due("a number, then worse", read(new TilesOfLaw(), "turns 12345 @"), -106);
        due("a bracket too deep, then worse", read(new TilesOfLaw(), "turns (((((( @"), -111);
        due("missing first, worse far behind", read(new TilesOfLaw(), "turns ;tires 1;rests @;"), -106);
        due("one behind the last ;", read(new TilesOfLaw(), parts("1", "1", "1") + " turns"), -125);
        due("the last ; twice", read(new TilesOfLaw(), parts("1", "1", "1") + ";"), -124);
        due("parts in another order", read(new TilesOfLaw(), "turns 1;rests 1;tires 1;"), -108);
        due("the fault at byte 159", read(new TilesOfLaw(), "turns 1" + " ".repeat(152) + "@"), -100 - 159);
    }

    private static void whatCanStand() {
        sentence("TEXT: turns E ; tires E ; rests E ; E: AND { or AND } .. ONE: a NUMBER, a NAME, - ONE, ( E )");
        String[] tokens = {"turns", "tires", "rests", "or", "and", "not", "weary", "worn", "7", "(", ")", ";", "+", "-", "*", "<",
            "="};
        String ones = "weary worn 7 ( -", nots = ones + " not", loose = "or and + - *", all = loose + " < =";
        String[][] places = {{"", "turns"}, {"turns", nots}, {"turns 1", all + " ;"}, {"turns 1;", "tires"}, {"turns 1;tires", nots},
            {"turns 1;tires row", all + " ;"}, {"turns 1;tires 1;", "rests"}, {"turns 1;tires 1;rests", nots},
            {"turns 1;tires 1;rests 1", all + " ;"}, {"turns 1;tires 1;rests 1;", ""}, {"turns (", nots}, {"turns (1", all + " )"},
            {"turns (1)", all + " ;"}, {"turns -", ones}, {"turns -1", all + " ;"}, {"turns not", nots}, {"turns not 1", all + " ;"},
            {"turns 1+", ones}, {"turns 1-", ones}, {"turns 1*", ones}, {"turns 1<", ones}, {"turns 1=", ones},
            {"turns 1+2", all + " ;"}, {"turns 1*2", all + " ;"}, {"turns 1 or", nots}, {"turns 1 and", nots},
            {"turns 1 or 2", all + " ;"}, {"turns 1 and 2", all + " ;"}, {"turns 1<2", loose + " ;"}, {"turns 1=2", loose + " ;"},
            {"turns 1<2+3", loose + " ;"}, {"turns not 1<2", loose + " ;"}, {"turns 1<(2", all + " )"}, {"turns 1<(2<3", loose + " )"},
            {"turns 1<2 or 3", all + " ;"}, {"turns 1<2 and 3", all + " ;"}, {"turns (1<2)", all + " ;"}, {"turns 1<-2", loose + " ;"}};
        for (String[] place : places) {
            for (String token : tokens) {
                boolean can = (" " + place[1] + " ").contains(" " + token + " ");
                // If it can stand there, the next byte, which begins no token, is at fault.
                String text = place[0] + " " + token;
                due("\"" + text + "\"", read(new TilesOfLaw(), text + "@"), -100 - (can ? text.length() : place[0].length() + 1));
            }
            String end = place[0] + " ";
            boolean whole = place[1].isEmpty();
            due("\"" + end + "\" ends", read(new TilesOfLaw(), end), whole ? 1 : -100 - end.length());
        }
    }

    private static void fiveOpen() {
        sentence("a ( , a not, a - ahead of a ONE while 5 of these are open");
        String[] openers = {"(", "not ", "-"};
        // Each run of five openers that can stand together holds; a sixth of any sort is the fault.
        for (int run = 0; run < 243; run++) {
            StringBuilder ahead = new StringBuilder();
            StringBuilder behind = new StringBuilder();
            boolean stands = true;
            for (int k = 0, code = run; k < 5; k++, code /= 3) {
                int opener = code % 3;
                // Behind a - stands a ONE, which is no not.
                stands &= opener != 1 || ahead.length() == 0 || ahead.charAt(ahead.length() - 1) != '-';
                ahead.append(openers[opener]);
                behind.append(opener == 0 ? ")" : "");
            }
            if (!stands) continue;
            String five = ahead + "1" + behind;
            due(five, read(new TilesOfLaw(), "turns " + five + ";tires " + five + ";rests " + five + ";"), 1);
            for (String sixth : openers) {
                due(ahead + sixth, read(new TilesOfLaw(), "turns " + ahead + sixth + "1"), -106 - ahead.length());
            }
        }
        sentence("a ( till its ) , not and - till what they belong to ends");
        due("closed, five anew", read(new TilesOfLaw(), parts("(((((1)))))*(((((1)))))", "1", "1")), 1);
        due("closed, six anew", read(new TilesOfLaw(), "turns (((((1)))))*((((((1"), -106 - 12 - 5);
        due("minus till its one", read(new TilesOfLaw(), parts("-----1*-----1+-----1", "1", "1")), 1);
        due("minus till its bracket ends", read(new TilesOfLaw(), parts("-((((1))))-(((((1)))))", "1", "1")), 1);
        due("minus as long as its bracket", read(new TilesOfLaw(), "turns -(((((1"), -106 - 5);
        due("not till its comparison ends", read(new TilesOfLaw(), "turns not 1 < (((((1"), -106 - 8 - 4);
        due("not till its sum ends", read(new TilesOfLaw(), "turns not 1 + (((((1"), -106 - 8 - 4);
        due("not, no more behind and", read(new TilesOfLaw(), parts("not 1 and (((((1)))))", "1", "1")), 1);
        due("not, no more behind or", read(new TilesOfLaw(), parts("not 1 or (((((1)))))", "1", "1")), 1);
        due("a sign between two is none of these", read(new TilesOfLaw(), parts("1-(((((1-1)))))-1", "1", "1")), 1);
    }

    private static void sixTexts() {
        sentence("There are 6 TEXTS at most, TEXT 0 with them");
        TilesOfLaw x = new TilesOfLaw();
        due("text 0", x.count(3), 1);
        for (int k = 1; k < 6; k++) {
            due("not yet", x.force(k), BAD);
            due("text " + k, read(x, parts("" + k, "" + k, "" + k)), k);
        }
        due("six", x.count(3), 6);
        feed(x, parts("1", "1", "1"));
        due("a seventh", x.text(), FULL);
        due("its tape stays", x.count(4), 24);
        due("still six", x.count(3), 6);
        due("none such", x.force(6), BAD);
        x.party(0, 0, 0);
        for (int k = 1; k < 6; k++) {
            x.force(k);
            due("text " + k + " as it was read", x.told(0, 7), k);
        }
    }

    private static void names() {
        sentence("Of one of PARTIES: weary, column, row, number, minute, worn");
        int[][] states = {{0, 0, 0, 0, 0}, {99, 63, 9, 999, 63}, {1, 7, 1, 1, 1}, {98, 56, 8, 998, 62}, {50, 28, 5, 500, 0}};
        String[] names = {"weary", "column", "row", "number", "minute", "worn"};
        for (int[] state : states) {
            int[] due = {state[0], state[1] % 8, state[1] / 8, state[2], state[3], state[4]};
            for (int k = 0; k < names.length; k++) {
                // Whether it is this very number, and how much of it stands above 900.
                TilesOfLaw x = ruled(parts(names[k] + "=" + due[k], names[k], names[k] + "-900"));
                for (int t = 0, left = state[4]; t < 64 && left > 0; t++) {
                    if (t == state[1]) continue;
                    x.set(2, t, 1);
                    left--;
                }
                x.party(0, state[2], state[1]);
                x.set(5, 0, state[0]);
                x.set(0, 0, state[3]);
                due(names[k] + " = " + due[k], x.told(0, 7), 1);
                due(names[k] + ", 99 at most", x.told(0, 8), Math.min(99, due[k]));
                due(names[k] + " - 900, 0 at least", x.told(0, 9), Math.max(0, due[k] - 900));
            }
        }
    }

    private static void keysAreNoNames() {
        sentence("turns, tires, rests, or, and, not are KEYS");
        for (String key : new String[] {"turns", "tires", "rests", "or", "and"}) {
            due(key + " for a one", read(new TilesOfLaw(), "turns " + key + ";"), -106);
        }
        due("not for a one", read(new TilesOfLaw(), "turns not;"), -109);
        for (String name : new String[] {"weary", "column", "row", "number", "minute", "worn"}) {
            due(name + " for turns", read(new TilesOfLaw(), name + " 1;"), -100);
            due(name + " for or", read(new TilesOfLaw(), "turns 1 " + name + " 1;"), -108);
        }
    }

    private static void wraps() {
        sentence("An E is an int (32 bits, wrapping)");
        // 2^31 - 1 as a sum of products, and the least of all.
        String most = "(256*256*256*127+256*256*255+256*255+255)", least = "(256*256*256*-128)";
        Object[][] es = {{most + "<0", 0}, {most + "+1<0", 1}, {most + "+1=" + least, 1}, {least + "<0", 1}, {least + "-1=" + most, 1},
            {"-" + least + "=" + least, 1}, {least + "*-1=" + least, 1}, {most + "*2=-2", 1}, {"65*" + most + "=" + most + "-64", 1},
            {"256*256*256*256", 0}, {"256*256*256*256*256+7", 7}, {"0-" + most + "-2=" + most, 1}, {least + "*2", 0},
            {most + "*4096*4096*2+8192*4096=0", 1}, {"not " + least, 0}, {least + " or 0", 1}, {least + " and " + "1", 1},
            {most + "<" + least, 0}, {least + "<1", 1}};
        for (Object[] e : es) {
            TilesOfLaw x = alone(0, 0, 0, parts((String) e[0], "0", "0"));
            due("" + e[0], x.told(0, 7), (Integer) e[1]);
        }
        TilesOfLaw x = alone(0, 0, 0, parts(most, "0", "0"));
        due("turns the most, 99", x.told(0, 7), 3);
        x = alone(0, 0, 0, parts(most + "+1", "0", "0"));
        due("turns one more, -99", x.told(0, 7), 5);
        x = alone(0, 0, 0, parts("0", most, "1"));
        due("tires the most", x.told(0, 8), 99);
        x = alone(0, 0, 0, parts("0", "1", most + "+1"));
        due("rests one more", x.told(0, 9), 0);
        // 9999 * 9999 * 9999 is -1027349969 as an int, which is less by what follows than 0.
        x = alone(0, 0, 0, parts("9999*9999*9999+9999*9999*10+9999*2755+2714=0", "0", "0"));
        due("9999 * 9999 * 9999", x.told(0, 7), 1);
    }

    private static void truth() {
        sentence("of or, and, not, <, = 1 or 0 (what is not 0 is true)");
        int[] numbers = {-2, -1, 0, 1, 2};
        for (int a : numbers) {
            for (int b : numbers) {
                boolean s = a != 0, t = b != 0;
                String[] signs = {" or ", " and ", "<", "="};
                boolean[] so = {s || t, s && t, a < b, a == b};
                for (int k = 0; k < signs.length; k++) {
                    TilesOfLaw x = alone(0, 0, 0, parts("7*(" + a + signs[k] + b + ")", a + signs[k] + b, "not " + a));
                    due("7*(" + a + signs[k] + b + ")", x.told(0, 7), so[k] ? 7 : 0);
                    due(a + signs[k] + b, x.told(0, 8), so[k] ? 1 : 0);
                    due("not " + a, x.told(0, 9), s ? 0 : 1);
                }
            }
        }
    }

    private static void textBounds() {
        sentence("turns (-99 .. 99, else the bound)");
        int[][] turns = {{98, 2}, {99, 3}, {100, 3}, {101, 3}, {1000, 3}, {-98, 6}, {-99, 5}, {-100, 5}, {-101, 5}, {-1000, 5}};
        for (int[] row : turns) {
            due("turns " + row[0], alone(0, 0, 0, parts("" + row[0], "0", "0")).told(0, 7), row[1]);
        }
        sentence("tires, rests (0 .. 99, else the bound)");
        int[][] others = {{-9999, 0}, {-1, 0}, {0, 0}, {1, 1}, {98, 98}, {99, 99}, {100, 99}, {9999, 99}};
        for (int[] row : others) {
            TilesOfLaw x = alone(0, 0, 0, parts("0", "" + row[0], "" + row[0]));
            due("tires " + row[0], x.told(0, 8), row[1]);
            due("rests " + row[0], x.told(0, 9), row[1]);
        }
    }

    private static void textZero() {
        sentence("TEXT 0, at first THE RULE, is: turns minute + number ; tires 3 ; rests 2 ;");
        TilesOfLaw x = alone(0, 9, 0);
        due("the rule", x.count(5), 0);
        due("tires", x.told(0, 8), 3);
        due("rests", x.told(0, 9), 2);
        for (int minute : new int[] {0, 1, 7, 88, 89, 90, 91, 98, 99, 100, 500, 999}) {
            x.set(0, 0, minute);
            due("minute " + minute + ", number 9", x.told(0, 7), Math.min(99, minute + 9) % 8);
        }
    }

    // ---- 2: a minute

    private static void wearyAtMost() {
        sentence("so much more WEARY (99 at most)");
        int[][] rows = {{0, 3}, {95, 98}, {96, 99}, {97, 99}, {98, 99}, {99, 99}};
        for (int[] row : rows) {
            TilesOfLaw x = alone(0, 0, 27);
            x.set(5, 0, row[0]);
            due("in thought, from " + row[0], x.run(0, 1, 1), row[1]);
            due("truly", x.minute(), 1);
            due("from " + row[0], x.told(0, 5), row[1]);
        }
    }

    private static void wearyAtLeast() {
        sentence("else it is so much less (0 at least)");
        int[][] rows = {{0, 0}, {1, 0}, {2, 0}, {3, 1}, {99, 97}};
        for (int[] row : rows) {
            // Number 4: from the corner there is no such leap.
            TilesOfLaw x = alone(0, 4, 0);
            x.set(5, 0, row[0]);
            due("in thought, from " + row[0], x.run(0, 1, 1), row[1]);
            due("truly", x.minute(), 0);
            due("from " + row[0], x.told(0, 5), row[1]);
        }
    }

    private static void toldAsAllIsThen() {
        sentence("of PARTIES by numbers (told as all is then)");
        // MINUTE is one for all of them, and what tires is told ahead of the leap.
        TilesOfLaw x = ruled(parts("2", "10*(column+1)+minute", "0"));
        for (int k = 0; k < 5; k++) x.party(0, k, 17 + k % 2);
        due("all leap", x.minute(), 31);
        for (int k = 0; k < 5; k++) due("weary of " + k, x.told(k, 5), 20 + 10 * (k % 2));
        due("again", x.minute(), 31);
        for (int k = 0; k < 5; k++) due("weary of " + k, x.told(k, 5), Math.min(99, 20 + 10 * (k % 2) + 41 + 10 * (k % 2)));
        // WEARY as it is ahead of the minute: a washer of 49 leaps still, and no more then.
        TilesOfLaw y = alone(5, 0, 27, parts("0", "0", "0"));
        y.set(5, 0, 49);
        due("49", y.minute(), 1);
        due("59 then", y.told(0, 5), 59);
        due("no more", y.minute(), 0);
    }

    private static void minuteIsOneMore() {
        sentence("MINUTE is 1 more");
        TilesOfLaw x = new TilesOfLaw();
        for (int k = 0; k < 12; k++) {
            due("minute " + k, x.count(2), k);
            due("nobody leaps", x.minute(), 0);
        }
        x.set(0, 0, 998);
        due("998", x.minute(), 0);
        due("999", x.count(2), 999);
        due("no more", x.minute(), STATE);
    }

    private static void minutesInThought() {
        sentence("n MINUTES (0 .. 40), in thought (there MINUTE may pass 999)");
        // It steps on in the one minute of the text's number alone.
        for (int at : new int[] {999, 1000, 1038}) {
            TilesOfLaw x = alone(2, 0, 0, parts("1+(minute=" + at + ")", "5", "0"));
            x.set(0, 0, 999);
            due("ahead of " + at, x.run(0, at - 999, 0), 0);
            due("in " + at, x.run(0, at - 998, 0), 1);
            due("weary", x.run(0, at - 998, 1), 6);
            due("behind 40", x.run(0, 40, 0), 1);
            due("behind 41", x.run(0, 41, 0), BAD);
            due("minute stays", x.count(2), 999);
            due("on stays", x.told(0, 4), 0);
        }
    }

    private static void call() {
        sentence("CALL (f 0 .. 2, n 0 .. 40): behind how many of n MINUTES most are FOUND f; of like ones the first");
        // It stands on black 1 from minute 40 on, on white 0 till then.
        TilesOfLaw x = alone(2, 0, 0, parts("2*(38<minute)+(minute<39)+(39<minute)", "0", "0"));
        due("39", x.call(1, 39, 0), 0);
        due("39: how many", x.call(1, 39, 1), 0);
        due("40, the last of n", x.call(1, 40, 0), 40);
        due("40: how many", x.call(1, 40, 1), 1);
        due("41", x.call(1, 41, 0), BAD);
        due("0 minutes, white", x.call(0, 0, 1), 1);
        due("of like ones the first", x.call(0, 40, 0), 0);
        due("of like ones, none", x.call(2, 40, 0), 0);
        due("of like ones, none: how many", x.call(2, 40, 1), 0);
        // Five at once.
        TilesOfLaw y = ruled(parts("2", "0", "0"));
        for (int k = 0; k < 5; k++) y.party(2, 0, 0);
        due("five: when", y.call(1, 40, 0), 1);
        due("five: how many", y.call(1, 40, 1), 5);
    }

    private static void meet() {
        sentence("MEET (two): behind how many MINUTES (0 .. 60) both stand ON one TILE first; NONE");
        for (int from : new int[] {0, 59, 60, 61}) {
            // One waits on 1; the other comes there from 0 in the one minute ahead of that.
            TilesOfLaw x = ruled(parts("2*(minute=" + (from - 1) + ")+(not minute=" + (from - 1) + ")", "0", "0"));
            x.party(2, 0, from == 0 ? 7 : 0);
            x.party(2, 0, from == 0 ? 7 : 1);
            // The one that waits has number 1 and a wall ahead of it.
            x.set(2, from == 0 ? 6 : 2, 1);
            due("behind " + from, x.meet(0, 1), from > 60 ? NONE : from);
            due("behind " + from + ", the other way", x.meet(1, 0), from > 60 ? NONE : from);
        }
        // They meet more than once: the first counts.
        TilesOfLaw y = ruled(parts("2*number+1-(minute=1)", "0", "0"));
        y.party(2, 1, 0);
        y.party(2, 1, 0);
        due("at once", y.meet(0, 1), 0);
        // Two that change places never stand on one.
        TilesOfLaw z = ruled(parts("2+4*(number=1)", "0", "0"));
        z.party(2, 0, 0);
        z.party(2, 1, 1);
        z.set(2, 2, 1);
        due("past one another", z.meet(0, 1), NONE);
    }

    // ---- 2: what would be best

    private static void reached() {
        sentence("REACHED (one, n 0 .. 63): TILES it could come to by n LEAPS or fewer, by any WAYS, all being as now");
        for (int t : new int[] {0, 31, 32, 63}) {
            TilesOfLaw x = alone(2, 0, t);
            due("0 leaps from " + t, x.reached(0, 0), 1L << t);
            long near = 1L << t | (t % 8 > 0 ? 1L << t - 1 : 0) | (t % 8 < 7 ? 1L << t + 1 : 0) | (t > 7 ? 1L << t - 8 : 0)
                | (t < 56 ? 1L << t + 8 : 0);
            due("1 leap from " + t, x.reached(0, 1), near);
            due("63 leaps", x.reached(0, 63), -1L);
            due("64 leaps", x.reached(0, 64), NO);
        }
        TilesOfLaw x = alone(2, 0, 0);
        due("13 leaps: all but the far corner", x.reached(0, 13), Long.MAX_VALUE);
        due("14 leaps: all", x.reached(0, 14), -1L);
        // Minute stays, weary stays: an old one leaps again and again, a washer too.
        x.party(4, 0, 0);
        due("old", x.reached(1, 14), -1L);
        x.party(5, 0, 0);
        x.set(5, 2, 49);
        due("washer of 49", x.reached(2, 6), -1L);
        x.set(0, 0, 1);
        due("old, in an odd minute", x.reached(1, 63), 1L);
    }

    private static void fewest() {
        sentence("FEWEST (one, a TILE): by how few; NONE");
        for (int t : new int[] {0, 31, 32, 63}) {
            TilesOfLaw x = alone(2, 0, t);
            for (int to = 0; to < 64; to++) {
                due("from " + t + " to " + to, x.fewest(0, to), Math.abs(t % 8 - to % 8) + Math.abs(t / 8 - to / 8));
            }
        }
        TilesOfLaw x = alone(1, 0, 0);
        x.set(2, 18, 1);
        for (int to : new int[] {0, 18, 63, 1}) due("shut in, to " + to, x.fewest(0, to), to == 0 ? 0 : NONE);
    }

    private static void stand() {
        sentence("STAND (f 0 .. 2, n 1 .. 20): the one such that .. most .. if more than so; of like ones the first; NONE");
        // All step from white to black in the one minute of the text's number; each that stands still is white.
        TilesOfLaw x = ruled(parts("2-(minute<19)", "0", "0"));
        for (int k = 0; k < 3; k++) x.party(2, 0, 0);
        due("19 minutes: all white, none better", x.best(0, 19, 0), NONE);
        due("19 minutes: as so", x.best(0, 19, 1), 3);
        due("20 minutes: of like ones the first", x.best(0, 20, 0), 0);
        due("20 minutes: how many", x.best(0, 20, 1), 1);
        due("20 minutes, black: no more than so", x.best(1, 20, 0), NONE);
        due("20 minutes, black: as so", x.best(1, 20, 1), 3);
        due("21 minutes", x.best(0, 21, 0), BAD);
        due("0 minutes", x.best(0, 0, 0), BAD);
        // The last of five, for it alone would leave red.
        TilesOfLaw y = ruled(parts("2", "0", "0"));
        for (int k = 0; k < 5; k++) y.party(2, 0, k == 4 ? 40 : 8 * k);
        y.set(1, 40, 1);
        due("the last of five", y.best(2, 1, 0), 4);
        due("the last of five: how many", y.best(2, 1, 1), 1);
        // It rests: a washer of 52 by rests 1 comes below 50 behind two minutes, and leaps no more all the same.
        TilesOfLaw z = ruled(parts("0", "0", "1"));
        z.party(5, 0, 27);
        z.set(5, 0, 51);
        due("behind one minute, on black 27 + 0", z.run(0, 1, 0), 27);
        due("behind two it leaps", z.run(0, 2, 0), 44);
        due("white: stand", z.best(0, 2, 0), 0);
        due("white: how many", z.best(0, 2, 1), 1);
    }

    private static void mend() {
        sentence("MEND (f, n): the TILE that is neither RED nor HOLLOW such that, were it RED, likewise");
        for (int t : new int[] {0, 31, 32, 62}) {
            // A clerk that comes to t + 1 and stays there by a wall.
            TilesOfLaw x = ruled(parts("2", "0", "0"));
            int to = t % 8 == 7 ? t : t + 1;
            if (to % 8 < 7) x.set(2, to + 1, 1);
            x.party(2, 0, t);
            due("where it comes to from " + t, x.best(2, 20, 2), to);
            due("how many", x.best(2, 20, 3), 1);
            x.set(1, to, 1);
            due("red already", x.best(2, 20, 2), NONE);
            due("red already: as so", x.best(2, 20, 3), 1);
        }
        // Of like ones the first, and two are more than one.
        TilesOfLaw y = ruled(parts("1", "0", "0"));
        y.party(2, 0, 50);
        y.party(2, 0, 40);
        due("of like ones the first", y.best(2, 1, 2), 40);
        y.party(2, 0, 50);
        due("two are more", y.best(2, 1, 2), 50);
        due("two", y.best(2, 1, 3), 2);
        // None is found white or black by red.
        due("white", y.best(0, 1, 2), NONE);
        due("white: as so, the two on 50", y.best(0, 1, 3), 2);
        due("black", y.best(1, 1, 2), NONE);
        due("black: as so, the one on 40", y.best(1, 1, 3), 1);
    }

    private static void hollowIt() {
        sentence("HOLLOW IT (f, n): the TILE that isn't HOLLOW, and nobody stands ON, such that, were it, likewise");
        for (int t : new int[] {0, 30, 32, 62}) {
            TilesOfLaw x = ruled(parts("2", "0", "0"));
            if (t % 8 < 6) x.set(2, t + 2, 1);
            x.party(2, 0, t);
            int f = (t % 8 + t / 8) % 2;
            due("where it would come to from " + t, x.best(f, 20, 4), t + 1);
            due("how many", x.best(f, 20, 5), 1);
            x.set(1, t + 1, 1);
            due("a red one too", x.best(f, 20, 4), t + 1);
            x.party(0, 0, t + 1);
            due("but not where one stands", x.best(f, 20, 4), NONE);
            due("as so", x.best(f, 20, 5), x.run(1, 20, 2) == f ? 1 : 0);
        }
        // Where all but its own tile are hollow there is none left.
        TilesOfLaw y = alone(0, 0, 27);
        for (int t = 0; t < 64; t++) if (t != 27) y.set(2, t, 1);
        due("none left", y.best(1, 1, 4), NONE);
        due("none left: as so", y.best(1, 1, 5), 0);
        due("thought alone", y.count(1), 63);
    }

    // ---- 2: tiles that were told

    private static void told() {
        sentence("TOLD: a SHEET tells what one stands ON behind 1, 2, .. MINUTES (20 at most): the first that is otherwise");
        TilesOfLaw x = alone(2, 0, 0, parts("2+2*(minute=6)+5*(6<minute)", "0", "0"));
        x.film(0, 0, 20);
        due("all 20", x.tells(0, 0, 0), NONE);
        for (int i : new int[] {0, 1, 10, 19}) {
            x.film(0, 0, 20);
            x.cell(0, i, 63);
            due("otherwise at " + i, x.tells(0, 0, 0), i);
            due("no kinds", x.tells(0, 0, 1), 0);
            due("nowhere", x.stood(0, 0), 0);
            x.cell(0, 19, 62);
            due("the first of two", x.tells(0, 0, 0), i);
        }
        x.sheet(1, 0, 21);
        for (int what = 0; what < 7; what++) due("21, " + what, x.tells(1, 0, what), BAD);
        due("21, stood", x.stood(1, 0), NO);
        x.sheet(1, 0, 20);
        due("20", x.tells(1, 0, 0), 0);
        sentence("TOLD: what an empty SHEET tells is so of all");
        x.sheet(2, 1, 0);
        int[] all = {NONE, 63, 1023, 100, 0, 3, 1};
        for (int what = 0; what < 7; what++) due("none told, " + what, x.tells(2, 0, what), all[what]);
        due("anywhere", x.stood(2, 0), -1L);
        sentence("TOLD: how WEARY (of 0 .. 99: how many, the least)");
        // It steps to 1 if weary just 0, or just 99; else it stays.
        for (int weary : new int[] {0, 99}) {
            TilesOfLaw y = alone(2, 0, 0, parts("1+(weary=" + weary + ")", "0", "0"));
            y.sheet(0, 0, 1);
            y.cell(0, 0, 1);
            due("how many, " + weary, y.tells(0, 0, 3), 1);
            due("the least, " + weary, y.tells(0, 0, 4), weary);
            y.cell(0, 0, 0);
            due("how many, not " + weary, y.tells(0, 0, 3), 99);
            due("the least, not " + weary, y.tells(0, 0, 4), weary == 0 ? 1 : 0);
            y.cell(0, 0, 2);
            due("none", y.tells(0, 0, 3), 0);
            due("no least", y.tells(0, 0, 4), NONE);
        }
        sentence("TOLD: NUMBERS (bits 0 .. 9), TEXTS (bits), PARTIES (bits)");
        TilesOfLaw z = ruled(parts("1+(number=9)+(number=0)", "0", "0"));
        for (int k = 2; k < 6; k++) due("text " + k, read(z, parts(k == 5 ? "2" : "1", "0", "0")), k);
        for (int k = 0; k < 5; k++) z.party(2, 9 * (k % 4 / 3), 0);
        z.sheet(0, 0, 1);
        z.cell(0, 0, 1);
        due("numbers 0 and 9", z.tells(0, 0, 2), 1 | 1 << 9);
        due("texts 1 and 5", z.tells(0, 0, 5), 1 << 1 | 1 << 5);
        due("all five", z.tells(0, 0, 6), 31);
        z.set(3, 4, 5);
        due("all but the last", z.tells(0, 0, 6), 15);
        due("of one of these", z.tells(0, 4, 0), 0);
        due("number of the last", z.tells(0, 4, 2), 1 | 1 << 9);
        sentence("TOLD: TILES (a long) it could stand ON now");
        TilesOfLaw w = alone(2, 0, 0, parts("2", "0", "0"));
        w.sheet(0, 0, 1);
        w.cell(0, 0, 63);
        due("from 62, or waiting on 63", w.stood(0, 0), 3L << 62);
        w.set(2, 62, 1);
        due("62 is hollow", w.stood(0, 0), 1L << 63);
        w.cell(0, 0, 0);
        due("none comes to 0", w.stood(0, 0), 0);
        w.cell(0, 0, 61);
        due("on 61 by the hollow one, or from 60", w.stood(0, 0), 3L << 60);
    }

    private static void drawn() {
        sentence("DRAWN by a SEED: n MINUTES (0 .. 40) of one .. z being z * 1103515245 + 12345 (an int; SEED at first)");
        for (int seed : new int[] {0, 1, -1, 77, Integer.MAX_VALUE, Integer.MIN_VALUE, 1 << 30, 0x12345678}) {
            for (int kind = 0; kind < 6; kind++) {
                TilesOfLaw x = alone(kind, 9, 27);
                x.set(5, 0, 49);
                int t = 27, z = seed;
                for (int n = 0; n <= 40; n++) {
                    due("seed " + seed + ", kind " + kind + ", " + n, x.drawn(seed, 0, n), t);
                    z = z * 1103515245 + 12345;
                    int to = landing(kind, t, (z >>> 9) % 8);
                    t = to == NONE ? t : to;
                }
                due("41", x.drawn(seed, 0, 41), BAD);
                due("-1", x.drawn(seed, 0, -1), BAD);
            }
        }
    }

    private static void inSeeds() {
        sentence("IN m seeds (1 .. 40), SEED and each 1 more (an int), 8 times: those by which that is BLACK, and not RED");
        for (int seed : new int[] {0, Integer.MAX_VALUE, Integer.MAX_VALUE - 20, Integer.MIN_VALUE, -1}) {
            TilesOfLaw x = alone(2, 0, 27);
            int black = 0;
            for (int m = 1; m <= 40; m++) {
                int t = x.drawn(seed + m - 1, 0, 8);
                black += (t % 8 + t / 8) % 2;
                long above = x.chance(seed, m, 0, 0), below = x.chance(seed, m, 0, 1);
                due("seed " + seed + " in " + m, above * m, black * below);
                due("in lowest terms: " + above + " by " + below, common(above, below), 1);
            }
        }
        TilesOfLaw x = alone(2, 0, 27);
        due("0 seeds", x.chance(0, 0, 0, 0), NO);
        due("41 seeds", x.chance(0, 41, 0, 0), NO);
        for (int t = 0; t < 64; t++) x.set(1, t, 1);
        due("all red", x.chance(0, 40, 0, 0), 0);
        due("all red: 0 by 1", x.chance(0, 40, 0, 1), 1);
    }

    private static long common(long a, long b) {
        return b == 0 ? a : common(b, a % b);
    }

    private static void mean() {
        sentence("MEAN: how WEARY all are, together, by how many they are");
        TilesOfLaw x = new TilesOfLaw();
        due("nobody, above", x.mean(0), NO);
        due("nobody, below", x.mean(1), NO);
        int[] weary = {99, 99, 99, 98, 99};
        long[][] means = {{99, 1}, {99, 1}, {99, 1}, {395, 4}, {494, 5}};
        for (int k = 0; k < 5; k++) {
            x.party(0, 0, 0);
            x.set(5, k, weary[k]);
            due("of " + (k + 1) + ", above", x.mean(0), means[k][0]);
            due("of " + (k + 1) + ", below", x.mean(1), means[k][1]);
        }
        x.set(5, 3, 99);
        due("all the most", x.mean(0), 99);
        due("all the most, below", x.mean(1), 1);
        for (int k = 0; k < 5; k++) x.set(5, k, 0);
        due("none weary", x.mean(0), 0);
        due("none weary, below", x.mean(1), 1);
    }

    private static void image() {
        sentence("AN IMAGE keeps RED, HOLLOW ones, MINUTE, NUMBERS, what all stand ON, how WEARY, THE RULE (PARTIES that came since go)");
        TilesOfLaw x = new TilesOfLaw();
        due("an empty one", x.image(), 0);
        read(x, parts("1", "1", "1"));
        x.force(1);
        for (int k = 0; k < 5; k++) x.party(k, k, k);
        for (int t = 8; t < 64; t++) x.set(t % 2 + 1, t, 1);
        x.set(0, 0, 999);
        due("back to nobody", x.back(), 0);
        for (int what = 0; what < 3; what++) due("floor " + what, x.floor(what), 0);
        due("minute", x.count(2), 0);
        due("rule", x.count(5), 0);
        due("texts stay", x.count(3), 2);
        due("none such", x.told(0, 3), -1000);
        // A full one: all five come back as they were.
        for (int k = 0; k < 5; k++) {
            x.party(k, k, k);
            x.set(5, k, 95 + k);
        }
        due("a full one", x.image(), 5);
        for (int k = 0; k < 5; k++) {
            x.set(3, k, 9);
            x.set(4, k, 63);
            x.set(5, k, 0);
        }
        due("back to five", x.back(), 5);
        for (int k = 0; k < 5; k++) {
            due("number", x.told(k, 3), k);
            due("on", x.told(k, 4), k);
            due("weary", x.told(k, 5), 95 + k);
            due("kind", x.told(k, 6), k);
        }
        due("still full", x.party(0, 0, 0), FULL);
    }

    // ---- 3: sheets

    private static void sheets() {
        sentence("SHEETS 0 .. 3 are rows of numbers, or missing (as all are at first): of sort 0 bytes, 1 shorts, 2 ints");
        TilesOfLaw x = alone(0, 0, 0);
        for (int s = 0; s < 4; s++) {
            due("missing at first", x.cell(s, 0, 0), -11);
            due("tells nothing", x.tells(s, 0, 0), -11);
            due("of no sort", x.suits(s, 0, 0, 1), -11);
        }
        for (int s = 0; s < 4; s++) {
            for (int sort = 0; sort < 3; sort++) {
                due("becomes", x.sheet(s, sort, 3), 1);
                for (int other = 0; other < 3; other++) {
                    due("sort " + sort + " for " + other, x.suits(s, other, 0, 0), other == sort ? 0 : -13);
                }
            }
            for (int other = s + 1; other < 4; other++) due("others still missing", x.cell(other, 0, 0), -11);
        }
        for (int s : beyond(0, 3)) due("sheet " + s, x.cell(s, 0, 0), BAD);
    }
}
