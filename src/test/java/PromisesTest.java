/** Promise by promise: ordinary calls, the edges that the document names, and wrong numbers. Worked out by hand. */
public final class PromisesTest extends Checks {
    public static void main(String[] args) {
        newObject();
        set();
        setThatAlone();
        party();
        told();
        toldByKinds();
        leap();
        leapByKinds();
        floor();
        feed();
        text();
        faults();
        opens();
        values();
        deepest();
        bounds();
        force();
        minute();
        minuteByKinds();
        run();
        call();
        meet();
        reached();
        fewest();
        best();
        mean();
        tells();
        stood();
        film();
        drawn();
        chance();
        imageAndBack();
        count();
        sheet();
        cell();
        copy();
        suits();
        suitsToTheEnd();
        taken();
        whenFull();
        end("promises");
    }

    private static void newObject() {
        sentence("1");
        TilesOfLaw x = new TilesOfLaw();
        due("parties", x.count(0), 0);
        due("hollow", x.count(1), 0);
        due("minute", x.count(2), 0);
        due("texts", x.count(3), 1);
        due("tape", x.count(4), 0);
        due("rule", x.count(5), 0);
        due("red", x.floor(0), 0);
        due("hollow", x.floor(1), 0);
        due("stood on", x.floor(2), 0);
        due("no image", x.back(), STATE);
        for (int k = 0; k < 4; k++) due("sheet " + k + " is missing", x.cell(k, 0, 0), -11);
        due("NONE", TilesOfLaw.NONE, -1);
        due("BAD", TilesOfLaw.BAD, -2);
        due("STATE", TilesOfLaw.STATE, -3);
        due("FULL", TilesOfLaw.FULL, -4);
        due("NO", TilesOfLaw.NO, -4611686018427387904L);
        TilesOfLaw other = new TilesOfLaw();
        x.party(0, 1, 2);
        due("objects are apart", other.count(0), 0);
    }

    private static void set() {
        sentence("2");
        TilesOfLaw x = new TilesOfLaw();
        due("minute", x.set(0, 0, 999), 0);
        due("minute, of does not matter", x.set(0, -77, 5), 999);
        for (int v : beyond(0, 999)) due("minute " + v, x.set(0, 0, v), -2);
        due("minute as it was", x.set(0, Integer.MAX_VALUE, 0), 5);
        x.party(0, 3, 10);
        x.party(1, 4, 11);
        for (int t : new int[] {0, 31, 32, 63}) {
            due("red " + t, x.set(1, t, 1), 0);
            due("red still " + t, x.set(1, t, 1), 1);
            due("red no more " + t, x.set(1, t, 0), 1);
            due("not red " + t, x.set(1, t, 0), 0);
            due("hollow " + t, x.set(2, t, 1), 0);
            due("hollow still " + t, x.set(2, t, 1), 1);
            due("a hollow one red " + t, x.set(1, t, 1), 0);
            due("hollow no more " + t, x.set(2, t, 0), 1);
            due("not hollow " + t, x.set(2, t, 0), 0);
            due("red all the while " + t, x.set(1, t, 0), 1);
        }
        for (int t : beyond(0, 63)) {
            due("red " + t, x.set(1, t, 1), -2);
            due("hollow " + t, x.set(2, t, 1), -2);
            due("on " + t, x.set(4, 0, t), -2);
        }
        for (int v : beyond(0, 1)) {
            due("red " + v, x.set(1, 5, v), -2);
            due("hollow " + v, x.set(2, 5, v), -2);
        }
        due("hollow where one stands", x.set(2, 10, 1), -2);
        due("not hollow where one stands", x.set(2, 10, 0), -2);
        due("red where one stands", x.set(1, 10, 1), 0);
        due("number", x.set(3, 0, 9), 3);
        due("number 0", x.set(3, 0, 0), 9);
        due("number of the other", x.set(3, 1, 4), 4);
        due("on", x.set(4, 0, 63), 10);
        due("hollow where one stood", x.set(2, 10, 1), 0);
        due("on a hollow one", x.set(4, 0, 10), -2);
        due("on one with another", x.set(4, 0, 11), 63);
        due("on where it is", x.set(4, 0, 11), 11);
        due("weary", x.set(5, 0, 99), 0);
        due("weary 0", x.set(5, 0, 0), 99);
        for (int v : beyond(0, 9)) due("number " + v, x.set(3, 0, v), -2);
        for (int v : beyond(0, 99)) due("weary " + v, x.set(5, 0, v), -2);
        for (int of : beyond(0, 1)) {
            for (int what = 3; what < 6; what++) due("what " + what + " of " + of, x.set(what, of, 1), -2);
        }
        for (int what : beyond(0, 5)) due("what " + what, x.set(what, 0, 0), -2);
        due("number as it was", x.told(0, 3), 0);
        due("on as it was", x.told(0, 4), 11);
        due("weary as it was", x.told(0, 5), 0);
        due("red as it was", x.floor(0), 1L << 10);
        due("hollow as it was", x.floor(1), 1L << 10);
    }

    private static final String[] SHOWN = {"minute", "red", "hollow", "number 0", "number 1", "on 0", "on 1", "weary 0", "weary 1",
        "kind 0", "kind 1", "rule"};

    private static long[] shown(TilesOfLaw x) {
        return new long[] {x.count(2), x.floor(0), x.floor(1), x.told(0, 3), x.told(1, 3), x.told(0, 4), x.told(1, 4), x.told(0, 5),
            x.told(1, 5), x.told(0, 6), x.told(1, 6), x.count(5)};
    }

    /** What is set becomes v, and nothing else does: of any tile, red and hollow or not, and of either party. */
    private static void setThatAlone() {
        sentence("2 (that alone)");
        int[][] sets = {{0, 5, 0, 0}, {0, 5, 1, 0}, {0, 6, 0, 0}, {0, 6, 1, 0}, {0, 1, 7, 0}, {0, -1, 1, 0}, {1, 5, 0, 1}, {1, 6, 1, 1},
            {1, 7, 1, 1}, {1, 8, 1, 1}, {2, 6, 1, 2}, {2, 5, 1, 2}, {2, 7, 0, 2}, {3, 0, 1, 3}, {3, 1, 0, 4}, {4, 0, 1, 5}, {4, 1, 0, 6},
            {5, 0, 1, 7}, {5, 1, 0, 8}};
        for (int[] set : sets) {
            TilesOfLaw x = new TilesOfLaw();
            x.party(4, 3, 10);
            x.party(5, 4, 8);
            x.set(0, 0, 12);
            x.set(1, 5, 1);
            x.set(2, 7, 1);
            x.set(5, 0, 20);
            x.set(5, 1, 30);
            long[] before = shown(x);
            long bit = set[0] == 1 || set[0] == 2 ? 1L << set[1] : 0, was = before[set[3]];
            String call = "set " + set[0] + " " + set[1] + " " + set[2];
            due(call, x.set(set[0], set[1], set[2]), bit == 0 ? was : (was & bit) != 0 ? 1 : 0);
            before[set[3]] = bit == 0 ? set[2] : set[2] == 1 ? was | bit : was & ~bit;
            long[] after = shown(x);
            for (int k = 0; k < after.length; k++) due(call + ", then " + SHOWN[k], after[k], before[k]);
        }
    }

    private static void party() {
        sentence("3");
        TilesOfLaw x = new TilesOfLaw();
        x.set(2, 9, 1);
        for (int v : beyond(0, 5)) due("kind " + v, x.party(v, 0, 0), -2);
        for (int v : beyond(0, 9)) due("number " + v, x.party(0, v, 0), -2);
        for (int v : beyond(0, 63)) due("on " + v, x.party(0, 0, v), -2);
        due("on a hollow one", x.party(0, 0, 9), -2);
        due("nobody came", x.count(0), 0);
        due("first", x.party(5, 9, 63), 0);
        due("second", x.party(0, 0, 0), 1);
        due("third, on the same", x.party(4, 2, 63), 2);
        due("weary 0", x.told(0, 5), 0);
        due("kind", x.told(0, 6), 5);
        due("number", x.told(0, 3), 9);
        due("on", x.told(0, 4), 63);
        due("fourth", x.party(1, 1, 1), 3);
        due("fifth", x.party(2, 1, 1), 4);
        due("sixth", x.party(2, 1, 1), -4);
        due("sixth, bad first", x.party(6, 1, 1), -2);
        due("sixth, on a hollow one", x.party(0, 1, 9), -2);
        due("five", x.count(0), 5);
        // What left with an image leaves nothing behind for the next.
        TilesOfLaw y = new TilesOfLaw();
        y.image();
        y.party(3, 7, 7);
        y.set(5, 0, 50);
        y.back();
        due("anew", y.party(0, 1, 2), 0);
        due("anew, weary", y.told(0, 5), 0);
        due("anew, kind", y.told(0, 6), 0);
    }

    private static void told() {
        sentence("4");
        TilesOfLaw x = new TilesOfLaw();
        x.set(0, 0, 12);
        x.set(1, 5, 1);
        x.set(2, 6, 1);
        x.party(0, 3, 5);
        x.party(1, 4, 63);
        x.party(2, 6, 5);
        x.set(5, 1, 44);
        due("minute", x.told(0, 0), 12);
        due("minute, of does not matter", x.told(-5, 0), 12);
        due("red", x.told(5, 1), 1);
        due("not red", x.told(6, 1), 0);
        due("hollow", x.told(6, 2), 1);
        due("not hollow", x.told(5, 2), 0);
        due("number", x.told(1, 3), 4);
        due("on", x.told(1, 4), 63);
        due("weary", x.told(1, 5), 44);
        due("kind", x.told(2, 6), 2);
        due("way: 12 + 3 by 8", x.told(0, 7), 7);
        due("way: 12 + 4 by 8", x.told(1, 7), 0);
        due("tires", x.told(0, 8), 3);
        due("rests", x.told(0, 9), 2);
        due("found on red", x.told(0, 10), 2);
        due("who is on 5", x.told(5, 11), 5);
        due("who is on 63", x.told(63, 11), 2);
        due("who is on 0", x.told(0, 11), 0);
        for (int what = 1; what < 12; what++) {
            boolean ofTile = what == 1 || what == 2 || what == 11;
            for (int of : beyond(0, ofTile ? 63 : 2)) due(of + " what " + what, x.told(of, what), -1000);
        }
        for (int what : beyond(0, 11)) due("what " + what, x.told(0, what), -1000);
    }

    private static void toldByKinds() {
        sentence("4 (kinds)");
        int[] tires = {7, 3, 8, 3 + 6, 16, 17};
        int[] rests = {9, 9, 0, 4, 6, 18};
        // Tile 1 is black, 0 white, 2 red; weary 0, 4, 5, 49, 50.
        int[][] black = {{1, 1, 1, 1, 1}, {1, 1, 1, 1, 1}, {1, 1, 1, 1, 1}, {1, 1, 1, 1, 1}, {0, 0, 0, 0, 0}, {1, 1, 1, 1, 2}};
        int[][] white = {{0, 0, 0, 0, 0}, {1, 1, 0, 0, 0}, {0, 0, 0, 0, 0}, {1, 1, 0, 0, 0}, {0, 0, 0, 0, 0}, {0, 0, 0, 0, 2}};
        int[] weary = {0, 4, 5, 49, 50};
        for (int kind = 0; kind < 6; kind++) {
            TilesOfLaw x = ruled("turns 0; tires 7; rests 9;");
            x.set(1, 2, 1);
            x.set(1, 11, 1);
            x.party(kind, 6, 1);
            due("tires of kind " + kind, x.told(0, 8), tires[kind]);
            due("rests of kind " + kind, x.told(0, 9), rests[kind]);
            for (int w = 0; w < weary.length; w++) {
                x.set(5, 0, weary[w]);
                x.set(4, 0, 1);
                due("kind " + kind + " on black, weary " + weary[w], x.told(0, 10), black[kind][w]);
                x.set(4, 0, 0);
                due("kind " + kind + " on white, weary " + weary[w], x.told(0, 10), white[kind][w]);
                x.set(4, 0, 9);
                due("kind " + kind + " on white 9, weary " + weary[w], x.told(0, 10), white[kind][w]);
                x.set(4, 0, 62);
                due("kind " + kind + " on black 62, weary " + weary[w], x.told(0, 10), black[kind][w]);
                for (int red : new int[] {2, 11}) {
                    x.set(4, 0, red);
                    due("kind " + kind + " on red, weary " + weary[w], x.told(0, 10), 2);
                }
            }
        }
    }

    private static void leap() {
        sentence("5");
        TilesOfLaw x = new TilesOfLaw();
        x.party(0, 0, 27);
        int[] to = {27 + 17, 27 + 10, 27 - 6, 27 - 15, 27 - 17, 27 - 10, 27 + 6, 27 + 15};
        for (int way = 0; way < 8; way++) due("way " + way, x.leap(0, way), to[way]);
        x.set(2, 44, 1);
        due("to a hollow one", x.leap(0, 0), -1);
        x.set(2, 44, 0);
        x.set(1, 44, 1);
        x.party(0, 0, 44);
        due("to a red one where another stands", x.leap(0, 0), 44);
        x.set(4, 0, 0);
        int[] corner = {17, 10, -1, -1, -1, -1, -1, -1};
        for (int way = 0; way < 8; way++) due("from 0 by " + way, x.leap(0, way), corner[way]);
        x.set(4, 0, 63);
        int[] last = {-1, -1, -1, -1, 46, 53, -1, -1};
        for (int way = 0; way < 8; way++) due("from 63 by " + way, x.leap(0, way), last[way]);
        for (int way : beyond(0, 7)) due("way " + way, x.leap(0, way), -2);
        for (int one : beyond(0, 1)) due("one " + one, x.leap(one, 0), -2);
        due("nobody moved", x.told(0, 4), 63);
    }

    private static void leapByKinds() {
        sentence("5 (kinds)");
        int[] party = {44, 37, 21, 12, 10, 17, 33, 42};
        int[] advocate = {27 + 18, 27 - 14, 27 - 18, 27 + 14, 10, 17, 33, 42};
        int[] clerk = {35, -1, 28, -1, 19, -1, 26, -1};
        int[][] to = {party, advocate, clerk, advocate, clerk, party};
        for (int kind = 0; kind < 6; kind++) {
            for (int number = 0; number < 10; number++) {
                TilesOfLaw x = new TilesOfLaw();
                x.party(kind, number, 27);
                for (int way = 0; way < 8; way++) {
                    boolean robed = kind == 3 && way == number;
                    String call = "kind " + kind + " number " + number + " way " + way;
                    due(call, x.leap(0, way), robed ? -1 : to[kind][way]);
                    x.set(0, 0, 7);
                    due(call + " in minute 7", x.leap(0, way), robed || kind == 4 ? -1 : to[kind][way]);
                    x.set(0, 0, 998);
                    due(call + " in minute 998", x.leap(0, way), robed ? -1 : to[kind][way]);
                    x.set(5, 0, 49);
                    due(call + " weary 49", x.leap(0, way), robed ? -1 : to[kind][way]);
                    x.set(5, 0, 50);
                    due(call + " weary 50", x.leap(0, way), robed || kind == 5 ? -1 : to[kind][way]);
                    x.set(5, 0, 0);
                }
            }
        }
    }

    private static void floor() {
        sentence("6");
        TilesOfLaw x = new TilesOfLaw();
        x.set(1, 0, 1);
        x.set(1, 63, 1);
        x.set(2, 31, 1);
        x.set(2, 32, 1);
        x.party(0, 0, 33);
        x.party(0, 0, 33);
        x.party(0, 0, 62);
        due("red", x.floor(0), 1 | 1L << 63);
        due("hollow", x.floor(1), 1L << 31 | 1L << 32);
        due("stood on", x.floor(2), 1L << 33 | 1L << 62);
        for (int what : beyond(0, 2)) due("what " + what, x.floor(what), NO);
    }

    private static void feed() {
        sentence("7");
        TilesOfLaw x = new TilesOfLaw();
        due("0", x.feed(0), 1);
        due("255", x.feed(255), 2);
        for (int v : beyond(0, 255)) due("letter " + v, x.feed(v), -2);
        for (int k = 3; k <= 160; k++) due("letter " + k, x.feed(32), k);
        due("full", x.feed(32), -4);
        due("bad ahead of full", x.feed(256), -2);
        due("tape", x.count(4), 160);
        due("fault at once", x.text(), -100);
        due("anew", x.feed(97), 1);
    }

    private static void text() {
        sentence("8");
        TilesOfLaw x = new TilesOfLaw();
        due("empty tape", x.text(), -100);
        due("still one text", x.count(3), 1);
        for (int k = 1; k <= 5; k++) {
            due("text " + k, read(x, "turns " + k + ";tires 0;rests 0;"), k);
            due("tape is empty", x.count(4), 0);
            due("texts", x.count(3), k + 1);
            if (k < 5) due("fault takes no room", read(x, "turns"), -105);
            due("a fault empties the tape too", x.count(4), 0);
        }
        due("full", read(x, "turns 0;tires 0;rests 0;"), -4);
        due("tape stays", x.count(4), 24);
        due("full ahead of a fault", read(x, ")"), -4);
        due("tape stays", x.count(4), 25);
        due("what it reads is no rule yet", x.count(5), 0);
        String longest = "turns minute+number;tires 3;rests 2;";
        TilesOfLaw y = new TilesOfLaw();
        due("160 bytes", read(y, longest + " ".repeat(160 - longest.length())), 1);
        String head = "turns 0", tail = ";tires 1;rests 2;";
        StringBuilder many = new StringBuilder(head);
        while (many.length() + 2 + tail.length() <= 160) many.append("+1");
        due("many ones", read(y, many + tail), 2);
        y.force(2);
        y.party(0, 0, 0);
        due("their sum", y.told(0, 7), (many.length() - head.length()) / 2 % 8);
    }

    private static void faults() {
        sentence("8 (faults)");
        String good = "turns 1;tires 2;rests 3;";
        Object[][] texts = {
            {good, 1}, {"  \n" + good + "\n ", 1}, {"turns 1 ; tires 2 ; rests 3 ;", 1},
            {"turns1;tires2;rests3;", 1}, {"turns\n1;\ntires\n2;rests 3;", 1},
            {"turns 9999;tires 0;rests 0000;", 1}, {"turns 1or 2and 3;tires 1;rests 1;", 1},
            // Ends too early: the size, blanks and all.
            {"", -100}, {"   ", -103}, {"turns", -105}, {"turns 1", -107}, {"turns 1;", -108}, {"turns 1;tires 2;  ", -118},
            {"turns 1;tires 2;rests 3", -123}, {"turns (1", -108}, {"turns -", -107}, {"turns not", -109},
            {"turns 1 +", -109}, {"turns 1 or ", -111}, {"turns 1 < ", -110},
            // A token that can't stand there.
            {"tires 1;tires 2;rests 3;", -100}, {" 1", -101}, {";", -100}, {"turns ;", -106},
            {"turns 1;turns 2;rests 3;", -108}, {"turns 1;rests 2;", -108}, {"turns 1;tires 2;tires 3;", -116},
            {"turns 1 2;", -108}, {"turns 1);", -107}, {"turns (1;", -108}, {"turns ();", -107}, {"turns (1));", -109},
            {"turns 1 not 2;", -108}, {"turns 1 + not 2;", -110}, {"turns 1 < not 2;", -110}, {"turns - not 2;", -108},
            {"turns 1 < 2 < 3;", -112}, {"turns 1 = 2 < 3;", -112}, {"turns 1 < 2 = 3;", -112},
            {"turns not 1 < 2 < 3;", -116}, {"turns + 1;", -106}, {"turns * 1;", -106}, {"turns 1 or or 2;", -111},
            {"turns and 1;", -106}, {"turns 1 tires 2;", -108}, {"turns weary row;", -112}, {"turns turns;", -106},
            {"turns (1 2);", -109}, {"turns 1 (2);", -108}, {"turns -;", -107}, {"turns (1<2)<3;tires 1;rests 1<;", -130},
            {good + " x", -125}, {good + "turns", -124}, {good + ";", -124}, {good + " 1", -125}, {good + "(", -124},
            // A byte that begins none.
            {"@", -100}, {"Turns 1;", -100}, {"turns 1\t;", -107}, {"turns \r1;", -106}, {"turns 1/2;", -107},
            {"turns 1 > 2;", -108}, {"turns {", -106}, {"turns `", -106}, {"turns \u0000", -106}, {"turns \u00ff1", -106},
            {"turns 1!", -107}, {good + "\u0080", -124}, {"turns :", -106}, {"turns /", -106}, {"turns 1,", -107},
            // A word that is neither key nor name, each as long as can be.
            {"turn 1;", -100}, {"turnsz 1;", -100}, {"turns az", -106}, {"turnss 1;", -100}, {"turns wear;", -106}, {"turns wearyrow;", -106}, {"turns a;", -106},
            {"turns 1orr;", -107}, {"turns 1 o", -108}, {"turns 1 z", -108}, {"turns rows", -106}, {"turns nots 1", -106},
            // A number that is too long.
            {"turns 12345;", -106}, {"turns 00000;", -106}, {"turns 1 + 99999;", -110}, {"turns 1 12345", -108},
            {"turns 99999999999999999999999;", -106},
        };
        for (Object[] text : texts) {
            due("\"" + text[0] + "\"", read(new TilesOfLaw(), (String) text[0]), (Integer) text[1]);
        }
        for (String name : new String[] {"weary", "column", "row", "number", "minute", "worn"}) {
            due(name, read(new TilesOfLaw(), "turns " + name + ";tires " + name + ";rests " + name + ";"), 1);
        }
    }

    private static void opens() {
        sentence("8 (open)");
        String tail = ";tires 1;rests 1;";
        Object[][] parts = {
            {"(((((1)))))", NONE}, {"((((((1))))))", 5}, {"-----1", NONE}, {"------1", 5},
            {"not not not not not 1", NONE}, {"not not not not not not 1", 20},
            {"-(-(-1))", NONE}, {"-(-(-(1)))", 5}, {"not(not(not 1))", NONE}, {"not(not(not(1)))", 11},
            {"(((((1)))))+(((((2)))))", NONE}, {"-----1-----2", NONE}, {"-----1------2", NONE}, {"-----1-------2", 12},
            {"-----1*-----2", NONE}, {"not not not not not 1 and not not not not not 2", NONE},
            {"not not not not not 1 or (((((1)))))", NONE}, {"not not not not 1 < -2", NONE},
            {"not not not not 1 < - -2", 22}, {"not not not not not 1 < 2", NONE}, {"not not not not not 1 < -2", 24},
            {"not not not not not 1 + -2", 24}, {"not not not not not 1 * (2)", 24},
            {"((((-1+-2))))", NONE}, {"((((-1+- -2))))", 9}, {"(((((1))))+-1)", NONE}, {"((((((1)", 5},
            {"-(1)-(-(-(-1)))", 10}, {"-(1)-(-(-(1)))", NONE}, {"-((1)+(2))*(((((3)))))", NONE}, {"(not 1 or (((1))))", NONE},
            {"(not 1 < (((1))))", NONE}, {"(not 1 < ((((1)))))", 12}, {"1-----1", NONE}, {"1------1", NONE}, {"1-------1", 7},
        };
        for (Object[] part : parts) {
            int fault = (Integer) part[1];
            due("" + part[0], read(new TilesOfLaw(), "turns " + part[0] + tail), fault == NONE ? 1 : -106 - fault);
        }
    }

    /** What a tires text tells, in so far as it is 0 .. 99, of a party weary 7 on column 5, row 2 with number 6. */
    private static void values() {
        sentence("8 (values)");
        Object[][] parts = {
            {"weary", 7}, {"column", 5}, {"row", 2}, {"number", 6}, {"minute", 40}, {"worn", 3}, {"12", 12}, {"0099", 99},
            {"2+3*4", 14}, {"(2+3)*4", 20}, {"20-5-4", 11}, {"20-(5-4)", 19}, {"2*3*4", 24}, {"-3+10", 7}, {"10*-3+40", 10},
            {"- -3", 3}, {"-(3-10)", 7}, {"50--3", 53}, {"-3*-3", 9},
            {"3<4", 1}, {"4<4", 0}, {"5<4", 0}, {"-1<0", 1}, {"4=4", 1}, {"4=5", 0}, {"1+2=3", 1}, {"2<1+3", 1}, {"(3<4)<2", 1},
            {"not 0", 1}, {"not 7", 0}, {"not -1", 0}, {"not not 7", 1}, {"not 3 < 2", 1}, {"not 2 < 3", 0}, {"not 0+1", 0},
            {"7 or 0", 1}, {"0 or 9", 1}, {"0 or 0", 0}, {"-1 or 0", 1}, {"7 and 9", 1}, {"7 and 0", 0}, {"0 and 7", 0},
            {"0 and 0 or 1", 1}, {"1 or 0 and 0", 1}, {"(1 or 0) and 0", 0}, {"not 1 or 1", 1}, {"not (1 or 1)", 0},
            {"not 0 and 0", 0}, {"not 1 and 0", 0}, {"5", 5}, {"(5)", 5}, {"1 or 1 or 1", 1}, {"1 and 1 and 5", 1},
            {"1 = 1 and 2 = 2", 1}, {"1 = 1 and 2 = 3", 0}, {"2 < 1 or 1 < 2", 1},
            // Wraps at 32 bits: 65536 * 65536 is 0, 2147483647 + 1 the least of all.
            {"256*256*256*256+9", 9}, {"256*256*256*128<0", 1}, {"256*256*256*128-1<0", 0}, {"-(256*256*256*128)<0", 1},
            {"9999*9999*9999<0", 1}, {"9999*9999*100<9999", 0}, {"(256*256*256*127+256*256*255+256*255+255)+1<0", 1},
        };
        for (Object[] part : parts) {
            TilesOfLaw x = new TilesOfLaw();
            x.party(0, 6, 21);
            x.set(5, 0, 7);
            x.set(0, 0, 40);
            for (int t = 61; t < 64; t++) x.set(2, t, 1);
            due("" + part[0], read(x, "turns 0;tires " + part[0] + ";rests " + part[0] + ";"), 1);
            due(part[0] + " is no rule yet", x.told(0, 8), 3);
            x.force(1);
            due("tires " + part[0], x.told(0, 8), (Integer) part[1]);
            due("rests " + part[0], x.told(0, 9), (Integer) part[1]);
        }
    }

    /** As much as can wait at once waits: each of five brackets stands behind or, and, <, + and *. */
    private static void deepest() {
        sentence("8 (deepest)");
        for (int v = 0; v < 2; v++) {
            String level = "0 or 1 and 0<0+1*";
            String e = (level + "(").repeat(5) + level + v + ")".repeat(5);
            TilesOfLaw x = ruled("turns " + e + ";tires 0;rests 0;");
            x.party(0, 0, 0);
            due("deepest " + v, x.told(0, 7), v);
        }
    }

    private static void bounds() {
        sentence("8 (bounds)");
        int[][] turns = {{7, 7}, {8, 0}, {98, 2}, {99, 3}, {100, 3}, {9999, 3}, {-1, 7}, {-8, 0}, {-9, 7}, {-99, 5}, {-100, 5},
            {-9999, 5}};
        for (int[] turn : turns) {
            TilesOfLaw x = ruled("turns " + turn[0] + ";tires 1;rests 1;");
            for (int kind = 0; kind < 5; kind++) {
                x.party(kind, 5, 0);
                due("turns " + turn[0] + " of kind " + kind, x.told(kind, 7), turn[1]);
            }
        }
        // The text's number is bounded, then what the kind makes of it: number is 5.
        int[][] tires = {{-20, 0, 0, 1, 5, 2, 10}, {98, 98, 49, 99, 54, 99, 99}, {99, 99, 49, 99, 54, 99, 99},
            {150, 99, 49, 99, 54, 99, 99}, {49, 49, 24, 50, 29, 99, 59}, {48, 48, 24, 49, 29, 98, 58}};
        int[][] rests = {{-20, 0, 0, 0, 0, 5, 0}, {99, 99, 99, 0, 49, 5, 99}, {150, 99, 99, 0, 49, 5, 99},
            {49, 49, 49, 0, 24, 5, 98}, {50, 50, 50, 0, 25, 5, 99}};
        for (int part = 0; part < 2; part++) {
            for (int[] row : part == 0 ? tires : rests) {
                TilesOfLaw x = ruled(part == 0 ? "turns 0;tires " + row[0] + ";rests 0;" : "turns 0;tires 0;rests " + row[0] + ";");
                x.image();
                for (int kind = 0; kind < 6; kind++) {
                    x.party(kind, 5, 0);
                    due((part == 0 ? "tires " : "rests ") + row[0] + " of kind " + kind, x.told(0, 8 + part), row[1 + kind]);
                    x.back();
                }
            }
        }
    }

    private static void force() {
        sentence("9");
        TilesOfLaw x = new TilesOfLaw();
        x.party(0, 4, 0);
        due("the only one", x.force(0), 0);
        for (int t : beyond(0, 0)) due("text " + t, x.force(t), -2);
        read(x, "turns 1;tires 10;rests 20;");
        read(x, "turns 2;tires 11;rests 21;");
        due("first", x.force(2), 0);
        due("its turns", x.told(0, 7), 2);
        due("its tires", x.told(0, 8), 11);
        due("its rests", x.told(0, 9), 21);
        due("other", x.force(1), 2);
        due("its turns", x.told(0, 7), 1);
        due("none such", x.force(3), -2);
        due("back", x.force(0), 1);
        due("turns minute + number", x.told(0, 7), 4);
        due("tires 3", x.told(0, 8), 3);
        due("rests 2", x.told(0, 9), 2);
    }

    private static void minute() {
        sentence("10");
        TilesOfLaw x = new TilesOfLaw();
        due("nobody", x.minute(), 0);
        due("minute", x.count(2), 1);
        x.party(0, 0, 0);
        x.party(0, 1, 0);
        x.party(0, 7, 27);
        x.set(5, 1, 1);
        // In minute 1: ways 1, 2 (none from 0) and 0.
        due("first and third", x.minute(), 5);
        due("first on", x.told(0, 4), 10);
        due("first weary", x.told(0, 5), 3);
        due("second on", x.told(1, 4), 0);
        due("second rests, 0 at least", x.told(1, 5), 0);
        due("third on", x.told(2, 4), 44);
        due("minute", x.count(2), 2);
        x.set(5, 0, 97);
        x.set(4, 0, 27);
        x.minute();
        due("99 at most", x.told(0, 5), 99);
        x.set(0, 0, 998);
        due("the last but one", x.minute() >= 0 ? 1 : 0, 1);
        due("999", x.count(2), 999);
        long on = x.floor(2);
        due("no more", x.minute(), -3);
        due("no more, minute", x.count(2), 999);
        due("no more, on", x.floor(2), on);
        // A hollow tile ahead: it rests instead.
        TilesOfLaw y = new TilesOfLaw();
        y.party(0, 0, 0);
        y.set(5, 0, 50);
        y.set(2, 17, 1);
        due("hollow", y.minute(), 0);
        due("rested", y.told(0, 5), 48);
        // Told as all is ahead of the leap: tires by the row left, not by the row come to.
        TilesOfLaw z = ruled("turns 0; tires 10 + row; rests 0;");
        z.party(0, 0, 8);
        z.party(0, 0, 0);
        due("both", z.minute(), 3);
        due("first", z.told(0, 5), 11);
        due("second", z.told(1, 5), 10);
    }

    private static void minuteByKinds() {
        sentence("10 (kinds)");
        TilesOfLaw x = ruled("turns 2 - minute*2; tires 9; rests 5;");
        x.party(1, 5, 28);
        x.party(2, 5, 28);
        x.party(3, 2, 28);
        x.party(4, 5, 28);
        x.party(5, 5, 28);
        for (int k = 0; k < 5; k++) x.set(5, k, 48);
        // Way 2: -2, -2; 1, 0; none by number 2; 1, 0; 2, -1.
        due("minute 0", x.minute(), 1 + 2 + 8 + 16);
        long[] on = {10, 29, 28, 29, 22};
        long[] weary = {48 + 4, 48 + 10, 48 - 2, 48 + 20, 48 + 19};
        for (int k = 0; k < 5; k++) {
            due("on of " + k, x.told(k, 4), on[k]);
            due("weary of " + k, x.told(k, 5), weary[k]);
        }
        // Way 0 in minute 1: 2, 2; 0, 1; 2, 2; none in odd minutes; none so weary.
        due("minute 1", x.minute(), 1 + 2 + 4);
        long[] then = {28, 37, 46, 29, 22};
        long[] wearyThen = {56, 68, 46 + 4 + 2, 68 - 5, 67 - 10};
        for (int k = 0; k < 5; k++) {
            due("on of " + k, x.told(k, 4), then[k]);
            due("weary of " + k, x.told(k, 5), wearyThen[k]);
        }
    }

    private static void run() {
        sentence("11");
        TilesOfLaw x = new TilesOfLaw();
        x.party(0, 0, 0);
        x.party(2, 0, 1);
        due("0 minutes, on", x.run(0, 0, 0), 0);
        due("0 minutes, weary", x.run(0, 0, 1), 0);
        due("0 minutes, found", x.run(0, 0, 2), 0);
        due("0 minutes, found 1", x.run(0, 0, 3), 1);
        // Ways 0, 1: to 17, to 27.
        due("1 minute, on", x.run(0, 1, 0), 17);
        due("2 minutes, on", x.run(0, 2, 0), 27);
        due("2 minutes, weary", x.run(0, 2, 1), 6);
        due("1 minute, found", x.run(0, 1, 2), 1);
        due("the clerk, on 9 then: white", x.run(1, 1, 2), 0);
        due("1 minute, found 1", x.run(1, 1, 3), 1);
        due("in thought", x.count(2), 0);
        due("in thought", x.told(0, 4), 0);
        x.set(0, 0, 999);
        due("beyond 999", x.run(1, 40, 0) >= 0 ? 1 : 0, 1);
        // Ways 999 - 999 and 1000 - 999: to 44, to 54.
        TilesOfLaw y = ruled("turns minute - 999; tires 3; rests 2;");
        y.party(0, 0, 27);
        y.set(0, 0, 999);
        due("beyond 999, once", y.run(0, 1, 0), 44);
        due("beyond 999, twice", y.run(0, 2, 0), 54);
        y.force(0);
        // The first rule comes to its bound there: 99, way 3.
        due("bounded, once", y.run(0, 1, 0), 12);
        due("beyond 999, still there", y.told(0, 0), 999);
        for (int n : beyond(0, 40)) due("n " + n, x.run(0, n, 0), -2);
        for (int one : beyond(0, 1)) for (int what = 0; what < 4; what++) due("one " + one, x.run(one, 0, what), -2);
        for (int what : beyond(0, 3)) due("what " + what, x.run(0, 0, what), -2);
    }

    private static void call() {
        sentence("12");
        TilesOfLaw x = new TilesOfLaw();
        due("nobody, when", x.call(1, 40, 0), 0);
        due("nobody, how many", x.call(1, 40, 1), 0);
        x.party(0, 0, 0);
        // It changes its colour with each leap: white on 0, black on 17, white on 27 and so on.
        due("black: when", x.call(1, 40, 0), 1);
        due("black: how many", x.call(1, 40, 1), 1);
        due("black, at once", x.call(1, 0, 0), 0);
        due("black, at once: how many", x.call(1, 0, 1), 0);
        due("white: the first", x.call(0, 40, 0), 0);
        due("white: how many", x.call(0, 40, 1), 1);
        x.set(1, x.run(0, 3, 0), 1);
        due("red: not yet", x.call(2, 2, 1), 0);
        due("red: when, the last of n", x.call(2, 3, 0), 3);
        due("red: how many", x.call(2, 3, 1), 1);
        x.set(1, x.run(0, 40, 0), 1);
        x.set(1, x.run(0, 3, 0), 0);
        due("red behind 40", x.call(2, 40, 1), 1);
        due("in thought", x.count(2), 0);
        for (int f : beyond(0, 2)) due("f " + f, x.call(f, 0, 0), -2);
        for (int n : beyond(0, 40)) due("n " + n, x.call(0, n, 0), -2);
        for (int what : beyond(0, 1)) due("what " + what, x.call(0, 0, what), -2);
    }

    private static void meet() {
        sentence("13");
        TilesOfLaw x = ruled("turns number; tires 0; rests 0;");
        x.party(2, 2, 0);
        x.party(2, 6, 4);
        x.party(2, 2, 8);
        x.party(2, 0, 3);
        due("half way", x.meet(0, 1), 2);
        due("likewise", x.meet(1, 0), 2);
        due("side by side", x.meet(0, 2), -1);
        x.set(4, 2, 0);
        due("at once", x.meet(0, 2), 0);
        for (int one : beyond(0, 3)) {
            due("one " + one, x.meet(one, 0), -2);
            due("other " + one, x.meet(0, one), -2);
        }
        due("one and the same", x.meet(1, 1), -2);
        due("none such, and the same", x.meet(7, 7), -2);
        // The one steps on from minute k on, the other waits where it comes: seven steps behind minute 53 or 54.
        TilesOfLaw y = ruled("turns 2 - (minute < 53); tires 0; rests 0;");
        y.party(2, 0, 0);
        y.party(2, 0, 7);
        due("behind 60", y.meet(0, 1), 60);
        TilesOfLaw z = ruled("turns 2 - (minute < 54); tires 0; rests 0;");
        z.party(2, 0, 0);
        z.party(2, 0, 7);
        due("behind 61: too late", z.meet(0, 1), -1);
        due("in thought", z.count(2), 0);
    }

    private static void reached() {
        sentence("14");
        TilesOfLaw x = new TilesOfLaw();
        x.party(0, 0, 0);
        due("0", x.reached(0, 0), 1);
        due("1", x.reached(0, 1), 1 | 1L << 17 | 1L << 10);
        due("all", x.reached(0, 6), -1);
        due("63", x.reached(0, 63), -1);
        due("5: not the far corner", x.reached(0, 5) >>> 63, 0);
        x.set(2, 17, 1);
        due("one hollow", x.reached(0, 1), 1 | 1L << 10);
        x.set(2, 10, 1);
        due("shut in", x.reached(0, 63), 1);
        x.party(4, 0, 9);
        due("old, even", x.reached(1, 1), 1L << 9 | 1L << 1 | 1L << 8);
        x.set(0, 0, 1);
        due("old, odd: all being as now", x.reached(1, 63), 1L << 9);
        x.party(5, 0, 9);
        x.set(5, 2, 50);
        due("washer, weary", x.reached(2, 63), 1L << 9);
        for (int n : beyond(0, 63)) due("n " + n, x.reached(0, n), NO);
        for (int one : beyond(0, 2)) due("one " + one, x.reached(one, 0), NO);
    }

    private static void fewest() {
        sentence("15");
        TilesOfLaw x = new TilesOfLaw();
        x.party(0, 0, 0);
        x.party(2, 0, 0);
        due("none", x.fewest(0, 0), 0);
        due("one", x.fewest(0, 17), 1);
        due("corner", x.fewest(0, 63), 6);
        due("beside", x.fewest(0, 1), 3);
        due("clerk", x.fewest(1, 63), 14);
        for (int t : beyond(0, 63)) due("tile " + t, x.fewest(0, t), -2);
        for (int one : beyond(0, 1)) due("one " + one, x.fewest(one, 0), -2);
        x.set(2, 63, 1);
        due("hollow", x.fewest(0, 63), -1);
        // A lane that winds over the floor: rows 0, 2, 4, 6 free, with one tile between them at the ends by turns.
        for (int t = 0; t < 64; t++) {
            int row = t / 8, column = t % 8;
            if (row % 2 == 1 && column != (row % 4 == 1 ? 7 : 0)) x.set(2, t, 1);
        }
        due("winding", x.fewest(1, 6 * 8), 3 * 9 + 7);
        due("and no nearer", x.reached(1, 3 * 9 + 6) >>> 48 & 1, 0);
        due("but then", x.reached(1, 3 * 9 + 7) >>> 48 & 1, 1);
    }

    private static void best() {
        sentence("16");
        TilesOfLaw x = new TilesOfLaw();
        for (int what = 0; what < 6; what++) due("nobody, " + what, x.best(0, 1, what), what % 2 == 0 ? -1 : 0);
        // Clerks that step to the right: 0 to 1 (black), 9 to 10 (black), 2 to 3 (black).
        x = ruled("turns 2; tires 5; rests 7;");
        x.party(2, 0, 0);
        x.party(2, 0, 9);
        x.party(2, 0, 2);
        due("white: stand", x.best(0, 1, 0), 0);
        due("white: how many", x.best(0, 1, 1), 1);
        due("black: none better", x.best(1, 1, 0), -1);
        due("black: how many", x.best(1, 1, 1), 3);
        due("red: mend, the first", x.best(2, 1, 2), 1);
        due("red: how many", x.best(2, 1, 3), 1);
        due("white: mend, none", x.best(0, 1, 2), -1);
        due("white: hollow it", x.best(0, 1, 4), 1);
        due("white: how many", x.best(0, 1, 5), 1);
        due("black: hollow it, none", x.best(1, 1, 4), -1);
        due("black: how many", x.best(1, 1, 5), 3);
        x.set(1, 1, 1);
        due("red already: another", x.best(2, 1, 2), 3);
        due("red: two then", x.best(2, 1, 3), 2);
        x.party(2, 0, 2);
        due("two at once", x.best(2, 1, 3), 3);
        due("in thought", x.floor(0), 2);
        due("in thought", x.floor(1), 0);
        due("in thought", x.floor(2), 1 | 1 << 9 | 1 << 2);
        for (int f : beyond(0, 2)) due("f " + f, x.best(f, 1, 0), -2);
        for (int n : beyond(1, 20)) due("n " + n, x.best(0, n, 0), -2);
        for (int what : beyond(0, 5)) due("what " + what, x.best(0, 1, what), -2);
        // It rests as it stands: an advocate weary 10 is below 5 behind one minute by rests 7.
        TilesOfLaw y = ruled("turns 0; tires 0; rests 7;");
        y.party(1, 0, 0);
        y.set(5, 0, 10);
        due("it rests", y.best(1, 1, 0), 0);
        due("it rests: how many", y.best(1, 1, 1), 1);
        // Where somebody stands nothing may be hollow: else the clerk on 8 would stop the one on 0.
        TilesOfLaw z = ruled("turns 0; tires 0; rests 0;");
        z.party(2, 0, 0);
        z.party(0, 0, 8);
        due("stood on", z.best(0, 1, 4), -1);
        // More worn by one: the text hears of it, at whatever tile, the first that is free.
        TilesOfLaw w = ruled("turns 2 * worn; tires 0; rests 0;");
        w.party(2, 0, 0);
        w.set(1, 1, 1);
        due("worn", w.best(2, 1, 4), 2);
        due("worn: how many", w.best(2, 1, 5), 1);
        w.set(2, 2, 1);
        due("worn already", w.best(2, 1, 4), -1);
        due("worn already: how many", w.best(2, 1, 5), 1);
        // A hollow tile stays so as another becomes hollow: by one the party would come to 10, by two it comes to 17.
        TilesOfLaw v = ruled("turns worn = 1; tires 0; rests 0;");
        v.party(0, 0, 0);
        v.set(2, 10, 1);
        v.set(1, 10, 1);
        due("one hollow: none leaps", v.best(1, 1, 1), 0);
        due("two hollow: by the other way", v.best(1, 1, 4), 1);
        due("two hollow: how many", v.best(1, 1, 5), 1);
        due("white: none better", v.best(0, 1, 4), -1);
        due("twenty minutes", w.best(0, 20, 1) >= 0 ? 1 : 0, 1);
    }

    private static void mean() {
        sentence("17");
        TilesOfLaw x = new TilesOfLaw();
        due("nobody", x.mean(0), NO);
        due("nobody", x.mean(1), NO);
        x.party(0, 0, 0);
        due("0 above", x.mean(0), 0);
        due("1 below", x.mean(1), 1);
        x.party(0, 0, 0);
        x.party(0, 0, 0);
        x.party(0, 0, 0);
        due("0 above", x.mean(0), 0);
        due("0: 1 below", x.mean(1), 1);
        x.set(5, 0, 99);
        x.set(5, 1, 7);
        due("106 by 4: above", x.mean(0), 53);
        due("106 by 4: below", x.mean(1), 2);
        x.party(0, 0, 0);
        due("106 by 5: above", x.mean(0), 106);
        due("106 by 5: below", x.mean(1), 5);
        x.set(5, 4, 4);
        due("110 by 5: above", x.mean(0), 22);
        due("110 by 5: below", x.mean(1), 1);
        for (int part : beyond(0, 1)) due("part " + part, x.mean(part), NO);
    }

    private static void tells() {
        sentence("18");
        TilesOfLaw x = new TilesOfLaw();
        due("nobody", x.tells(0, 0, 0), -2);
        x.party(0, 0, 0);
        x.party(0, 1, 27);
        x.party(5, 0, 0);
        due("missing", x.tells(0, 0, 0), -11);
        for (int s : beyond(0, 3)) due("sheet " + s, x.tells(s, 0, 0), -2);
        for (int one : beyond(0, 2)) due("one " + one, x.tells(0, one, 0), -2);
        for (int what : beyond(0, 6)) due("what " + what, x.tells(0, 0, what), -2);
        for (int sort = 0; sort < 3; sort++) {
            x.sheet(0, sort, 2);
            x.cell(0, 0, 17);
            x.cell(0, 1, 27);
            due("none otherwise", x.tells(0, 0, 0), -1);
            // Kinds: the party and the washer leap alike; number 0 alone; weary: all; the first text; 0 and 2.
            due("kinds", x.tells(0, 0, 1), 1 | 32);
            due("numbers", x.tells(0, 0, 2), 1 | 1 << 8);
            due("weary, how many", x.tells(0, 0, 3), 100);
            due("weary, least", x.tells(0, 0, 4), 0);
            due("washer: how many", x.tells(0, 2, 3), 37);
            due("texts", x.tells(0, 0, 5), 1);
            due("parties", x.tells(0, 0, 6), 5);
            due("parties, of another", x.tells(0, 1, 6), 5);
            due("another: the first otherwise", x.tells(0, 1, 0), 0);
            x.cell(0, 1, 28);
            due("the second otherwise", x.tells(0, 0, 0), 1);
            due("no kinds", x.tells(0, 0, 1), 0);
            due("no numbers", x.tells(0, 0, 2), 0);
            due("weary, none", x.tells(0, 0, 3), 0);
            due("weary, no least", x.tells(0, 0, 4), -1);
            due("no texts", x.tells(0, 0, 5), 0);
            due("no parties", x.tells(0, 0, 6), 0);
        }
        x.sheet(1, 2, 20);
        due("20", x.tells(1, 0, 0), 0);
        x.sheet(1, 2, 21);
        due("21", x.tells(1, 0, 0), -2);
        x.sheet(1, 2, 0);
        due("none told", x.tells(1, 0, 0), -1);
        due("all kinds", x.tells(1, 0, 1), 63);
        due("all numbers", x.tells(1, 0, 2), 1023);
        due("all parties", x.tells(1, 0, 6), 7);
        // How weary it must have been to leap by this text, and which texts it may have been.
        TilesOfLaw y = ruled("turns 2 * (30 < weary); tires 0; rests 0;");
        read(y, "turns 0; tires 0; rests 0;");
        read(y, "turns 2; tires 0; rests 0;");
        y.party(2, 3, 0);
        y.sheet(3, 0, 1);
        y.cell(3, 0, 1);
        due("weary 31 .. 99", y.tells(3, 0, 3), 69);
        due("least 31", y.tells(3, 0, 4), 31);
        due("texts", y.tells(3, 0, 5), 8);
        y.cell(3, 0, 8);
        due("weary 0 .. 30", y.tells(3, 0, 3), 31);
        due("least 0", y.tells(3, 0, 4), 0);
        due("texts", y.tells(3, 0, 5), 2 | 4);
        due("the rule as it was", y.count(5), 1);
        due("weary as it was", y.told(0, 5), 0);
    }

    private static void stood() {
        sentence("19");
        TilesOfLaw x = ruled("turns 2; tires 0; rests 0;");
        x.party(2, 0, 0);
        x.sheet(0, 2, 0);
        due("anywhere", x.stood(0, 0), -1);
        x.set(2, 63, 1);
        due("but on hollow ones", x.stood(0, 0), -1L >>> 1);
        x.sheet(0, 2, 2);
        x.cell(0, 0, 7);
        x.cell(0, 1, 7);
        due("at the edge", x.stood(0, 0), 1 << 6 | 1 << 7);
        x.cell(0, 0, 6);
        due("ahead of it", x.stood(0, 0), 1 << 5);
        x.cell(0, 0, 5);
        due("nowhere", x.stood(0, 0), 0);
        x.cell(0, 0, 62);
        x.cell(0, 1, 62);
        due("beside a hollow one", x.stood(0, 0), 1L << 61 | 1L << 62);
        // Nobody comes up to the last row, for there is none below it.
        TilesOfLaw y = ruled("turns 4; tires 0; rests 0;");
        y.party(2, 0, 0);
        y.sheet(0, 0, 1);
        y.cell(0, 0, 56);
        due("from beyond", y.stood(0, 0), 0);
        x.sheet(1, 2, 21);
        due("21", x.stood(1, 0), NO);
        x.sheet(1, 2, 20);
        due("20", x.stood(1, 0), 0);
        due("missing", x.stood(2, 0), NO);
        for (int s : beyond(0, 3)) due("sheet " + s, x.stood(s, 0), NO);
        for (int one : beyond(0, 0)) due("one " + one, x.stood(0, one), NO);
        due("on as it was", x.told(0, 4), 0);
    }

    private static void film() {
        sentence("20");
        TilesOfLaw x = new TilesOfLaw();
        x.party(0, 0, 0);
        x.party(0, 1, 27);
        x.sheet(0, 2, 33);
        due("20", x.film(0, 0, 20), 20);
        due("20 items", x.cell(0, 20, 0), -12);
        due("it is so", x.tells(0, 0, 0), -1);
        due("of that one", x.tells(0, 1, 0), 0);
        x.sheet(1, 0, 20);
        due("bytes", x.copy(0, 0, 1, 0, 20), 20);
        due("as copied", x.tells(1, 0, 0), -1);
        due("in thought", x.count(2), 0);
        due("in thought", x.told(0, 4), 0);
        due("2", x.film(0, 0, 2), 2);
        x.cell(0, 0, 17);
        due("17 first", x.tells(0, 0, 0), -1);
        x.cell(0, 1, 27);
        due("then 27", x.tells(0, 0, 0), -1);
        due("0", x.film(3, 1, 0), 0);
        due("no item, but not missing", x.cell(3, 0, 0), -12);
        for (int s : beyond(0, 3)) due("sheet " + s, x.film(s, 0, 1), -2);
        for (int one : beyond(0, 1)) due("one " + one, x.film(0, one, 1), -2);
        for (int n : beyond(0, 20)) due("n " + n, x.film(0, 0, n), -2);
        due("refused, as it was", x.tells(0, 0, 0), -1);
        due("refused, as long", x.cell(0, 1, 27), 1);
    }

    private static void drawn() {
        sentence("21");
        TilesOfLaw x = new TilesOfLaw();
        x.party(0, 0, 27);
        due("0 minutes", x.drawn(5, 0, 0), 27);
        // z is 12345, its way 24 % 8 = 0; then 12345 * 1103515245 + 12345 = -740551042 as an int: 6942219 % 8 = 3;
        // then -1492899873: 5472787 % 8 = 3; then -698016724: 7025294 % 8 = 6.
        due("seed 0, once", x.drawn(0, 0, 1), 44);
        due("seed 0, twice", x.drawn(0, 0, 2), 29);
        due("seed 0, three times", x.drawn(0, 0, 3), 14);
        due("seed 0, four times", x.drawn(0, 0, 4), 20);
        due("seed 12345, once: the second of seed 0", x.drawn(12345, 0, 1), 12);
        x.set(2, 44, 1);
        due("a hollow one: it stays", x.drawn(0, 0, 1), 27);
        due("and leaps then", x.drawn(0, 0, 2), 12);
        x.set(5, 0, 99);
        due("weary does not matter", x.drawn(0, 0, 2), 12);
        due("in thought", x.told(0, 4), 27);
        // An old one in an odd minute never leaps, for minute stays; in an even one it may each time.
        x.party(4, 0, 27);
        due("old, even, then none by an odd way", x.drawn(0, 1, 2), 35);
        due("old, even, then to the left", x.drawn(0, 1, 4), 34);
        due("old, even, once", x.drawn(0, 1, 1), 35);
        x.set(0, 0, 1);
        for (int seed = 0; seed < 20; seed++) due("old, odd", x.drawn(seed, 1, 40), 27);
        x.party(5, 0, 27);
        x.set(5, 2, 50);
        for (int seed = 0; seed < 20; seed++) due("washer, weary", x.drawn(seed, 2, 40), 27);
        due("any seed", x.drawn(Integer.MIN_VALUE, 0, 40) >= 0 ? 1 : 0, 1);
        for (int one : beyond(0, 2)) due("one " + one, x.drawn(0, one, 0), -2);
        for (int n : beyond(0, 40)) due("n " + n, x.drawn(0, 0, n), -2);
    }

    private static void chance() {
        sentence("22");
        for (int seed : new int[] {0, 77, Integer.MAX_VALUE - 3, Integer.MIN_VALUE, -9}) {
            for (int m : new int[] {1, 2, 3, 4, 6, 8, 9, 20, 39, 40}) {
                TilesOfLaw x = new TilesOfLaw();
                x.party(2, 0, 27);
                x.set(2, 28, 1);
                x.set(1, 26, 1);
                x.set(1, 34, 1);
                int black = 0;
                for (int k = 0; k < m; k++) {
                    int tile = x.drawn(seed + k, 0, 8);
                    if ((tile / 8 + tile % 8) % 2 == 1 && x.told(tile, 1) == 0) black++;
                }
                int by = 1;
                for (int d = 1; d <= m; d++) if (black % d == 0 && m % d == 0) by = d;
                due(seed + " in " + m + ", above", x.chance(seed, m, 0, 0), black / by);
                due(seed + " in " + m + ", below", x.chance(seed, m, 0, 1), m / by);
            }
        }
        // An old one shut in on black: 1 by 1; on red, or on white: 0 by 1.
        TilesOfLaw x = new TilesOfLaw();
        x.set(0, 0, 1);
        x.party(4, 0, 1);
        due("black, above", x.chance(3, 6, 0, 0), 1);
        due("black, below", x.chance(3, 6, 0, 1), 1);
        x.set(1, 1, 1);
        due("red, above", x.chance(3, 6, 0, 0), 0);
        due("red, below", x.chance(3, 6, 0, 1), 1);
        x.set(4, 0, 0);
        due("white, above", x.chance(3, 6, 0, 0), 0);
        for (int m : beyond(1, 40)) due("m " + m, x.chance(0, m, 0, 0), NO);
        for (int one : beyond(0, 0)) due("one " + one, x.chance(0, 1, one, 0), NO);
        for (int part : beyond(0, 1)) due("part " + part, x.chance(0, 1, 0, part), NO);
    }

    private static void imageAndBack() {
        sentence("23, 24");
        TilesOfLaw x = new TilesOfLaw();
        due("none yet", x.back(), -3);
        due("nobody", x.image(), 0);
        x.party(0, 3, 5);
        x.party(4, 6, 7);
        due("back to nobody", x.back(), 0);
        due("nobody", x.count(0), 0);
        x.party(0, 3, 5);
        x.party(4, 6, 7);
        x.set(0, 0, 100);
        x.set(1, 9, 1);
        x.set(2, 10, 1);
        x.set(5, 1, 33);
        read(x, "turns 1; tires 1; rests 1;");
        x.force(1);
        due("two", x.image(), 2);
        x.set(0, 0, 200);
        x.set(1, 9, 0);
        x.set(1, 11, 1);
        x.set(2, 10, 0);
        x.set(2, 12, 1);
        x.set(3, 0, 9);
        x.set(4, 0, 10);
        x.set(5, 0, 9);
        x.set(5, 1, 0);
        x.party(2, 2, 2);
        x.minute();
        read(x, "turns 2; tires 2; rests 2;");
        x.force(2);
        x.feed(65);
        x.sheet(0, 1, 3);
        for (int k = 0; k < 2; k++) {
            due("back", x.back(), 2);
            due("parties", x.count(0), 2);
            due("minute", x.count(2), 100);
            due("rule", x.count(5), 1);
            due("red", x.floor(0), 1 << 9);
            due("hollow", x.floor(1), 1 << 10);
            due("on", x.floor(2), 1 << 5 | 1 << 7);
            due("number", x.told(0, 3), 3);
            due("on", x.told(0, 4), 5);
            due("weary", x.told(0, 5), 0);
            due("weary", x.told(1, 5), 33);
            due("kind", x.told(1, 6), 4);
            due("gone", x.told(2, 3), -1000);
            due("not kept: texts", x.count(3), 3);
            due("not kept: tape", x.count(4), 1);
            due("not kept: sheets", x.cell(0, 2, 0), 1);
            // Once more: the image stays as it was kept.
            x.set(3, 1, 0);
            x.minute();
            x.set(1, 1, 1);
        }
        due("a new image", x.image(), 2);
        x.set(1, 1, 0);
        x.back();
        due("the new one counts", x.told(1, 1), 1);
    }

    private static void count() {
        sentence("25");
        TilesOfLaw x = new TilesOfLaw();
        x.party(0, 0, 0);
        x.party(0, 0, 0);
        x.set(2, 1, 1);
        x.set(2, 63, 1);
        x.set(2, 5, 1);
        x.set(0, 0, 44);
        read(x, "turns 1; tires 1; rests 1;");
        x.force(1);
        for (int k = 0; k < 6; k++) x.feed(32);
        due("parties", x.count(0), 2);
        due("hollow", x.count(1), 3);
        due("minute", x.count(2), 44);
        due("texts", x.count(3), 2);
        due("tape", x.count(4), 6);
        due("rule", x.count(5), 1);
        for (int what : beyond(0, 5)) due("what " + what, x.count(what), -2);
    }

    private static void sheet() {
        sentence("26");
        TilesOfLaw x = new TilesOfLaw();
        for (int sort = 0; sort < 3; sort++) {
            due("40", x.sheet(sort, sort, 40), 1);
            due("the last", x.cell(sort, 39, 1), 1);
            due("behind it", x.cell(sort, 40, 1), -12);
            due("0", x.sheet(sort, sort, 0), 1);
            due("no item", x.cell(sort, 0, 1), -12);
        }
        for (int s : beyond(0, 3)) due("sheet " + s, x.sheet(s, 0, 1), -2);
        for (int sort : beyond(-1, 2)) due("sort " + sort, x.sheet(0, sort, 1), -2);
        due("41", x.sheet(0, 0, 41), -2);
        due("most", x.sheet(0, 0, Integer.MAX_VALUE), -2);
        due("below 0", x.sheet(0, 0, -1), -14);
        due("far below 0", x.sheet(0, 0, Integer.MIN_VALUE), -14);
        due("bad sort ahead", x.sheet(0, 3, -1), -2);
        due("bad sheet ahead", x.sheet(4, 0, -1), -2);
        due("refused: not missing", x.cell(0, 0, 1), -12);
        due("missing", x.sheet(0, -1, 77), 1);
        due("missing, n does not matter", x.sheet(0, -1, -77), 1);
        due("is missing", x.cell(0, 0, 1), -11);
        due("no such sheet, missing", x.sheet(4, -1, 0), -2);
        // All 0: a row made anew holds nothing of what stood there.
        x.party(2, 0, 8);
        read(x, "turns 4; tires 1; rests 1;");
        x.force(1);
        x.sheet(0, 2, 2);
        due("all 0", x.tells(0, 0, 0), -1);
        x.cell(0, 1, 9);
        due("not so", x.tells(0, 0, 0), 1);
        x.sheet(0, 2, 2);
        due("all 0 again", x.tells(0, 0, 0), -1);
    }

    private static void cell() {
        sentence("27");
        TilesOfLaw x = ruled("turns 0; tires 0; rests 0;");
        x.party(2, 0, 1);
        x.sheet(0, 0, 1);
        x.sheet(1, 1, 1);
        x.sheet(2, 2, 1);
        // It comes to tile 9: what a cell keeps is told by whether this is so.
        int[] vs = {9, 9 + 256, 9 - 256, 9 + 65536, 9 - 65536, 9 + (1 << 24), 9 + 255};
        boolean[][] so = {{true, true, true, true, true, true, false}, {true, false, false, true, true, true, false},
            {true, false, false, false, false, false, false}};
        for (int s = 0; s < 3; s++) {
            for (int k = 0; k < vs.length; k++) {
                due("cell", x.cell(s, 0, vs[k]), 1);
                due(vs[k] + " in sort " + s, x.tells(s, 0, 0), so[s][k] ? -1 : 0);
            }
            for (int i : beyond(0, 0)) due("item " + i, x.cell(s, i, 0), -12);
        }
        for (int s : beyond(0, 3)) due("sheet " + s, x.cell(s, 0, 0), -2);
        due("missing", x.cell(3, 0, 0), -11);
        due("missing, and outside", x.cell(3, -1, 0), -11);
    }

    private static void copy() {
        sentence("28");
        TilesOfLaw x = ruled("turns 2; tires 0; rests 0;");
        x.party(2, 0, 0);
        x.sheet(0, 1, 7);
        for (int i = 0; i < 7; i++) x.cell(0, i, i + 1);
        due("so", x.tells(0, 0, 0), -1);
        x.sheet(1, 1, 7);
        due("all", x.copy(0, 0, 1, 0, 7), 7);
        due("as copied", x.tells(1, 0, 0), -1);
        // Onto itself, each way: as they were.
        due("one on", x.copy(0, 0, 0, 1, 6), 6);
        due("the first two alike", x.tells(0, 0, 0), 1);
        due("and back", x.copy(0, 1, 0, 0, 6), 6);
        due("but the last", x.tells(0, 0, 0), 6);
        x.copy(1, 6, 0, 6, 1);
        due("now all", x.tells(0, 0, 0), -1);
        due("none", x.copy(0, 7, 1, 7, 0), 0);
        due("none, from outside", x.copy(0, 8, 1, 0, 0), -12);
        due("none, to outside", x.copy(0, 0, 1, 8, 0), -12);
        due("below 0", x.copy(0, 0, 1, 0, -1), -12);
        due("from below 0", x.copy(0, -1, 1, 0, 1), -12);
        due("to below 0", x.copy(0, 0, 1, -1, 1), -12);
        due("too many from there", x.copy(0, 1, 1, 0, 7), -12);
        due("too many to there", x.copy(0, 0, 1, 1, 7), -12);
        due("far too many", x.copy(0, 1, 1, 1, Integer.MAX_VALUE), -12);
        due("far outside", x.copy(0, Integer.MAX_VALUE, 1, Integer.MAX_VALUE, 1), -12);
        due("refused: as it was", x.tells(1, 0, 0), -1);
        due("missing", x.copy(0, 0, 2, 0, 1), -11);
        due("from a missing one", x.copy(2, 0, 0, 0, 1), -11);
        due("missing ahead of outside", x.copy(0, -1, 2, 0, 1), -11);
        x.sheet(2, 0, 7);
        due("unlike", x.copy(0, 0, 2, 0, 1), -13);
        due("unlike ahead of outside", x.copy(0, -1, 2, 0, -1), -13);
        x.sheet(2, 2, 7);
        due("unlike", x.copy(2, 0, 0, 0, 0), -13);
        for (int s : beyond(0, 3)) {
            due("sheet " + s, x.copy(s, 0, 0, 0, 1), -2);
            due("other " + s, x.copy(0, 0, s, 0, 1), -2);
            due("other ahead of missing " + s, x.copy(3, 0, s, 0, 1), -2);
        }
    }

    private static void suits() {
        sentence("29");
        TilesOfLaw x = new TilesOfLaw();
        for (int sort = 0; sort < 3; sort++) {
            x.image();
            int[] row = {99, 3, 4, 5, 0, 10, 6, 2, 1, 1, 0, 9, 63};
            x.sheet(0, sort, row.length);
            for (int i = 0; i < row.length; i++) x.cell(0, i, row[i]);
            due("from 1, four", x.suits(0, sort, 1, 4), 3);
            due("three came", x.count(0), 3);
            due("kind", x.told(0, 6), 3);
            due("number", x.told(0, 3), 4);
            due("on", x.told(0, 4), 5);
            due("kind of the last", x.told(2, 6), 0);
            due("full: others are left out", x.suits(0, sort, 1, 4), 2);
            due("five", x.count(0), 5);
            due("full", x.suits(0, sort, 1, 4), 0);
            x.back();
            due("none", x.suits(0, sort, 1, 0), 0);
            due("the second outside", x.suits(0, sort, 10, 2), -12);
            due("what stood ahead came", x.count(0), 1);
            x.back();
            due("half outside", x.suits(0, sort, 11, 1), -12);
            due("outside", x.suits(0, sort, 13, 1), -12);
            due("far outside", x.suits(0, sort, Integer.MAX_VALUE, 5), -12);
            due("below 0", x.suits(0, sort, -1, 1), -12);
            due("far below 0", x.suits(0, sort, Integer.MIN_VALUE, 5), -12);
            due("nobody", x.count(0), 0);
            for (int other = 0; other < 3; other++) {
                if (other != sort) due("of another sort", x.suits(0, other, 1, 4), -13);
            }
            for (int v : beyond(0, 3)) due("sheet " + v, x.suits(v, sort, 0, 0), -2);
            for (int v : beyond(0, 2)) due("sort " + v, x.suits(0, v, 0, 0), -2);
            for (int v : beyond(0, 5)) due("n " + v, x.suits(0, sort, 0, v), -2);
            due("missing", x.suits(1, sort, 0, 0), -11);
            due("still nobody", x.count(0), 0);
        }
        x.set(2, 5, 1);
        x.sheet(0, 2, 3);
        x.cell(0, 2, 5);
        due("on a hollow one: left out", x.suits(0, 2, 0, 1), 0);
    }

    private static void suitsToTheEnd() {
        sentence("29 (the last place)");
        // Five come from 25 on, by places 25 .. 39 of 40; from 26 on the fifth stands outside.
        for (int from : new int[] {25, 26, 27, 37, 38, 39, 40}) {
            TilesOfLaw x = new TilesOfLaw();
            due("a row of 40", x.sheet(0, 0, 40), 1);
            int whole = (40 - from) / 3;
            due("five from " + from, x.suits(0, 0, from, 5), whole == 5 ? 5 : -12);
            due("came", x.count(0), whole);
            due("none from " + from, x.suits(0, 0, from, 0), 0);
        }
        // The copy, too, goes to the last place of 40.
        TilesOfLaw x = new TilesOfLaw();
        x.sheet(0, 1, 40);
        x.sheet(1, 1, 40);
        due("copy of 40", x.copy(0, 0, 1, 0, 40), 40);
        due("copy of the last", x.copy(0, 39, 1, 39, 1), 1);
        due("copy of one beyond", x.copy(0, 40, 1, 39, 1), -12);
        due("copy to one beyond", x.copy(0, 39, 1, 40, 1), -12);
        due("copy of 41", x.copy(0, 0, 1, 0, 41), -12);
    }

    private static void taken() {
        sentence("30");
        boolean[][] is = {
            {true, false, false, false, false, false}, {true, true, false, false, false, false},
            {true, false, true, false, false, false}, {true, true, false, true, false, false},
            {true, false, true, false, true, false}, {true, false, false, false, false, true}};
        for (int kind = 0; kind < 6; kind++) {
            TilesOfLaw x = new TilesOfLaw();
            x.party(kind, 9 - kind, 3);
            for (int k = 0; k < 6; k++) due(kind + " for " + k, x.taken(0, k), is[kind][k] ? 9 - kind : -13);
            for (int k : beyond(0, 5)) {
                due("k " + k, x.taken(0, k), -2);
                due("k " + k + " ahead of none such", x.taken(7, k), -2);
            }
            for (int one : beyond(0, 0)) due("one " + one, x.taken(one, 0), -11);
            x.set(3, 0, 0);
            due("the number as it is", x.taken(0, kind), 0);
        }
    }

    /** All that can be full at once is full. */
    private static void whenFull() {
        sentence("11, 18, 25 (full)");
        TilesOfLaw x = new TilesOfLaw();
        for (int k = 1; k < 6; k++) due("text " + k, read(x, parts("1", "2", "3")), k);
        x.force(5);
        for (int k = 0; k < 5; k++) x.party(1, 9, 0);
        due("all are found 1", x.run(4, 0, 3), 5);
        due("by the call, too", x.call(1, 0, 1), 5);
        for (int k = 0; k < 5; k++) x.set(5, k, 99);
        due("none is found 1", x.run(4, 0, 3), 0);
        x.sheet(0, 0, 0);
        due("all texts", x.tells(0, 0, 5), 63);
        due("all parties", x.tells(0, 0, 6), 31);
        for (int t = 1; t < 64; t++) x.set(2, t, 1);
        x.set(0, 0, 999);
        feed(x, "x".repeat(160));
        int[] most = {5, 63, 999, 6, 160, 5};
        for (int what = 0; what < 6; what++) due("count " + what, x.count(what), most[what]);
        due("text", x.text(), FULL);
        due("feed", x.feed(0), FULL);
        due("party", x.party(0, 0, 0), FULL);
        due("minute", x.minute(), STATE);
        for (int what = 0; what < 6; what++) due("count " + what + ", as it was", x.count(what), most[what]);
        due("still in thought", x.run(0, 40, 0), 0);
        due("still in thought, it rests", x.run(0, 40, 1), 0);
        due("reached", x.reached(0, 63), 1);
    }
}
