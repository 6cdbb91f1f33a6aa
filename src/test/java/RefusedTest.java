import java.util.ArrayList;
import java.util.List;

/**
 * "Refusals, the first that the call's words name; they change nothing": each refused call is made on a floor of its own,
 * which must then answer all as one made alike that was not asked. The same for calls that only tell or think.
 */
public final class RefusedTest extends Checks {
    private interface Call {
        long on(TilesOfLaw x);
    }

    private interface Recipe {
        void make(TilesOfLaw x);
    }

    private record Case(String words, Call call, long due) { }

    private static final List<Case> cases = new ArrayList<>();

    private static void refused(String words, long due, Call call) {
        cases.add(new Case(words, call, due));
    }

    public static void main(String[] args) {
        onAnyFloor();
        withNobody();
        runCases("a new floor", x -> { });
        onAnyFloor();
        withThree();
        thoughts();
        runCases("a floor in use", RefusedTest::inUse);
        onAnyFloor();
        whereFull();
        runCases("a full floor", RefusedTest::full);
        onAnyFloor();
        withFullTape();
        runCases("a full tape", RefusedTest::fullTape);
        suitsThatEndsOutside();
        end("refusals");
    }

    private static void runCases(String floor, Recipe recipe) {
        TilesOfLaw untouched = new TilesOfLaw();
        recipe.make(untouched);
        String due = all(untouched);
        for (Case c : cases) {
            sentence(floor + ", " + c.words);
            TilesOfLaw x = new TilesOfLaw();
            recipe.make(x);
            due("it", c.call.on(x), c.due);
            must(all(x).equals(due), "it changed something");
        }
        cases.clear();
    }

    // ---- floors

    private static void inUse(TilesOfLaw x) {
        x.party(3, 4, 11);
        x.set(0, 0, 40);
        x.image();
        x.party(0, 2, 27);
        x.party(5, 1, 27);
        x.set(0, 0, 12);
        x.set(1, 13, 1);
        x.set(1, 63, 1);
        x.set(2, 20, 1);
        x.set(2, 40, 1);
        x.set(5, 0, 17);
        x.set(5, 2, 49);
        read(x, parts("row+1", "weary", "5"));
        read(x, parts("2", "1", "minute"));
        x.force(1);
        feed(x, "turns 4+1;tires 6;rests 7");
        x.film(0, 1, 20);
        x.sheet(1, 1, 3);
        cells(x, 1, 2, 7, 33);
        x.sheet(2, 2, 21);
        cells(x, 2, 1, 3, 63, 4, 9, 0, 0, 0, 31, 6, 0, 0);
    }

    private static void full(TilesOfLaw x) {
        for (int k = 0; k < 5; k++) x.party(k + 1, 9 - k, 63 - k);
        x.set(0, 0, 999);
        for (int k = 1; k < 6; k++) read(x, parts("" + k, "" + k, "" + k));
        x.force(5);
        feed(x, "turns");
        x.sheet(0, 0, 40);
        x.sheet(1, 1, 40);
        x.sheet(2, 2, 40);
        x.sheet(3, 0, 20);
    }

    private static void fullTape(TilesOfLaw x) {
        x.party(0, 0, 0);
        feed(x, " ".repeat(136) + parts("6", "7", "8"));
        x.image();
        x.sheet(0, 1, 0);
    }

    private static void cells(TilesOfLaw x, int sheet, int... vs) {
        for (int i = 0; i < vs.length; i++) x.cell(sheet, i, vs[i]);
    }

    // ---- all that can be asked

    /** What a floor answers to all that shows its state; some 250 calls, which leave it otherwise. */
    private static String all(TilesOfLaw x) {
        StringBuilder all = new StringBuilder();
        floorOf(x, all);
        for (int one = 0; one < 5; one++) all.append(x.run(one, 7, 0)).append(' ').append(x.run(one, 7, 1)).append(' ');
        for (int s = 0; s < 4; s++) {
            for (int what = 0; what < 7; what += 3) all.append(x.tells(s, 1, what)).append(' ');
            for (int sort = 0; sort < 3; sort++) all.append(x.suits(s, sort, 0, 0)).append(' ');
        }
        all.append("image ").append(x.back()).append(' ');
        floorOf(x, all);
        all.append("sheets ").append(x.image()).append(' ');
        for (int s = 0; s < 3; s++) {
            all.append(x.suits(s, s, 0, 4)).append(' ');
            floorOf(x, all);
            x.back();
        }
        for (int s = 0; s < 4; s++) {
            for (int i : new int[] {0, 2, 3, 14, 19, 20, 21, 39, 40}) all.append(x.cell(s, i, 0)).append(' ');
        }
        all.append("tape ").append(x.feed(';')).append(' ').append(x.text()).append(' ').append(x.count(4)).append(' ');
        for (int t = 0; t < 6; t++) {
            all.append("text ").append(x.force(t)).append(' ');
            for (int what = 7; what < 10; what++) all.append(x.told(0, what)).append(' ');
        }
        return all.toString();
    }

    private static void floorOf(TilesOfLaw x, StringBuilder all) {
        for (int what = 0; what < 6; what++) all.append(x.count(what)).append(' ');
        for (int what = 0; what < 3; what++) all.append(x.floor(what)).append(' ');
        for (int one = 0; one < 5; one++) {
            for (int what = 3; what < 7; what++) all.append(x.told(one, what)).append(' ');
        }
        all.append('\n');
    }

    // ---- what is refused on any floor

    private static void onAnyFloor() {
        for (int v : beyond(0, 5)) {
            refused("set what " + v, BAD, x -> x.set(v, 0, 0));
            refused("count " + v, BAD, x -> x.count(v));
            refused("best what " + v, BAD, x -> x.best(0, 1, v));
            refused("party of kind " + v, BAD, x -> x.party(v, 0, 0));
            refused("taken for " + v, BAD, x -> x.taken(0, v));
            refused("taken for " + v + ", none such", BAD, x -> x.taken(9, v));
            refused("suits n " + v, BAD, x -> x.suits(0, 0, 0, v));
        }
        for (int v : beyond(0, 999)) refused("set minute " + v, BAD, x -> x.set(0, 0, v));
        for (int v : beyond(0, 1)) {
            refused("set red " + v, BAD, x -> x.set(1, 1, v));
            refused("set hollow " + v, BAD, x -> x.set(2, 1, v));
            refused("call what " + v, BAD, x -> x.call(0, 0, v));
            refused("mean " + v, NO, x -> x.mean(v));
            refused("chance part " + v, NO, x -> x.chance(0, 1, 0, v));
        }
        for (int v : beyond(0, 9)) {
            refused("party of number " + v, BAD, x -> x.party(0, v, 0));
            refused("set number " + v, BAD, x -> x.set(3, 0, v));
        }
        for (int v : beyond(0, 63)) {
            refused("party on " + v, BAD, x -> x.party(0, 0, v));
            refused("set red of " + v, BAD, x -> x.set(1, v, 1));
            refused("set hollow of " + v, BAD, x -> x.set(2, v, 1));
            refused("set on " + v, BAD, x -> x.set(4, 0, v));
            refused("told red of " + v, -1000, x -> x.told(v, 1));
            refused("told hollow of " + v, -1000, x -> x.told(v, 2));
            refused("told who is on " + v, -1000, x -> x.told(v, 11));
            refused("fewest to " + v, BAD, x -> x.fewest(0, v));
            refused("reached by " + v, NO, x -> x.reached(0, v));
        }
        for (int v : beyond(0, 99)) refused("set weary " + v, BAD, x -> x.set(5, 0, v));
        for (int v : beyond(0, 11)) refused("told what " + v, -1000, x -> x.told(0, v));
        for (int v : beyond(0, 7)) refused("leap by " + v, BAD, x -> x.leap(0, v));
        for (int v : beyond(0, 2)) {
            refused("floor " + v, NO, x -> x.floor(v));
            refused("call f " + v, BAD, x -> x.call(v, 0, 0));
            refused("best f " + v, BAD, x -> x.best(v, 1, 0));
            refused("suits for sort " + v, BAD, x -> x.suits(0, v, 0, 0));
        }
        for (int v : beyond(0, 255)) refused("feed " + v, BAD, x -> x.feed(v));
        for (int v : beyond(0, 40)) {
            refused("run " + v, BAD, x -> x.run(0, v, 0));
            refused("call " + v, BAD, x -> x.call(0, v, 0));
            refused("drawn " + v, BAD, x -> x.drawn(0, 0, v));
        }
        for (int v : beyond(0, 3)) {
            refused("run what " + v, BAD, x -> x.run(0, 0, v));
            refused("tells of sheet " + v, BAD, x -> x.tells(v, 0, 0));
            refused("stood of sheet " + v, NO, x -> x.stood(v, 0));
            refused("film in sheet " + v, BAD, x -> x.film(v, 0, 1));
            refused("sheet " + v, BAD, x -> x.sheet(v, 0, 1));
            refused("sheet " + v + ", missing", BAD, x -> x.sheet(v, -1, 1));
            refused("sheet " + v + ", below 0", BAD, x -> x.sheet(v, 0, -1));
            refused("cell of sheet " + v, BAD, x -> x.cell(v, 0, 0));
            refused("copy from sheet " + v, BAD, x -> x.copy(v, 0, 0, 0, 0));
            refused("copy to sheet " + v, BAD, x -> x.copy(0, 0, v, 0, 0));
            refused("suits of sheet " + v, BAD, x -> x.suits(v, 0, 0, 0));
        }
        for (int v : beyond(1, 20)) refused("best by " + v, BAD, x -> x.best(0, v, 0));
        for (int v : beyond(0, 20)) refused("film of " + v, BAD, x -> x.film(0, 0, v));
        for (int v : beyond(1, 40)) refused("chance in " + v, NO, x -> x.chance(0, v, 0, 0));
        for (int v : beyond(0, 6)) refused("tells what " + v, BAD, x -> x.tells(0, 0, v));
        for (int v : beyond(-1, 2)) refused("sheet of sort " + v, BAD, x -> x.sheet(0, v, 1));
        for (int v : new int[] {41, 42, Integer.MAX_VALUE}) refused("sheet of " + v, BAD, x -> x.sheet(0, 0, v));
        for (int v : new int[] {-1, -2, Integer.MIN_VALUE}) refused("sheet of " + v, -14, x -> x.sheet(0, 0, v));
        refused("sheet of no sort, below 0", BAD, x -> x.sheet(0, 3, -1));
        ofNone(5);
    }

    /** Calls of ones that are none such: just beyond the last, and as far as can be. */
    private static void ofNone(int parties) {
        for (int v : beyond(0, parties - 1)) {
            for (int what = 3; what < 6; what++) {
                int w = what;
                refused("set " + w + " of " + v, BAD, x -> x.set(w, v, 0));
            }
            for (int what = 3; what < 11; what++) {
                int w = what;
                refused("told " + w + " of " + v, -1000, x -> x.told(v, w));
            }
            for (int what = 0; what < 4; what++) {
                int w = what;
                refused("run of " + v + ", " + w, BAD, x -> x.run(v, 0, w));
            }
            for (int what = 0; what < 7; what++) {
                int w = what;
                refused("tells of " + v + ", " + w, BAD, x -> x.tells(0, v, w));
            }
            refused("leap of " + v, BAD, x -> x.leap(v, 0));
            refused("meet of " + v, BAD, x -> x.meet(v, 0));
            refused("meet with " + v, BAD, x -> x.meet(0, v));
            refused("meet of " + v + " with itself", BAD, x -> x.meet(v, v));
            refused("reached by one " + v, NO, x -> x.reached(v, 0));
            refused("fewest of " + v, BAD, x -> x.fewest(v, 0));
            refused("stood of " + v, NO, x -> x.stood(0, v));
            refused("film of one " + v, BAD, x -> x.film(0, v, 0));
            refused("drawn of " + v, BAD, x -> x.drawn(0, v, 0));
            refused("chance of " + v, NO, x -> x.chance(0, 1, v, 0));
            refused("taken of " + v, -11, x -> x.taken(v, 0));
        }
    }

    private static void withNobody() {
        ofNone(0);
        refused("mean above", NO, x -> x.mean(0));
        refused("mean below", NO, x -> x.mean(1));
        refused("back", STATE, x -> x.back());
        for (int v : beyond(0, 0)) refused("force " + v, BAD, x -> x.force(v));
        for (int s = 0; s < 4; s++) missing(s);
        refused("meet", BAD, x -> x.meet(0, 1));
    }

    private static void missing(int s) {
        refused("cell of a missing sheet " + s, -11, x -> x.cell(s, 0, 0));
        refused("cell outside a missing sheet " + s, -11, x -> x.cell(s, -1, 0));
        refused("copy from a missing sheet " + s, -11, x -> x.copy(s, 0, (s + 1) % 4, 0, 0));
        refused("copy to a missing sheet " + s, -11, x -> x.copy((s + 1) % 4, 0, s, 0, 0));
        refused("copy outside a missing sheet " + s, -11, x -> x.copy(s, -1, s, 50, -1));
        for (int sort = 0; sort < 3; sort++) {
            int of = sort;
            refused("suits of a missing sheet " + s + " for " + of, -11, x -> x.suits(s, of, 0, 1));
            refused("suits of a missing sheet " + s + " for " + of + ", none", -11, x -> x.suits(s, of, 0, 0));
        }
    }

    private static void withThree() {
        ofNone(3);
        missing(3);
        for (int what = 0; what < 7; what++) {
            int w = what;
            refused("tells of a missing sheet, " + w, -11, x -> x.tells(3, 0, w));
            refused("tells of a sheet of 21, " + w, BAD, x -> x.tells(2, 0, w));
            refused("tells of a missing sheet, none such, " + w, BAD, x -> x.tells(3, 3, w));
        }
        refused("tells of a missing sheet, no such what", BAD, x -> x.tells(3, 0, 7));
        refused("stood of a missing sheet", NO, x -> x.stood(3, 0));
        refused("stood of a sheet of 21", NO, x -> x.stood(2, 0));
        refused("party on a hollow tile", BAD, x -> x.party(0, 0, 20));
        refused("set on a hollow tile", BAD, x -> x.set(4, 0, 40));
        refused("set hollow where one stands", BAD, x -> x.set(2, 11, 1));
        refused("set hollow where two stand", BAD, x -> x.set(2, 27, 1));
        for (int v : beyond(0, 2)) refused("force " + v, BAD, x -> x.force(v));
        refused("meet of one and the same", BAD, x -> x.meet(2, 2));
        for (int i : beyond(0, 19)) refused("cell " + i + " of bytes", -12, x -> x.cell(0, i, 9));
        for (int i : beyond(0, 2)) refused("cell " + i + " of shorts", -12, x -> x.cell(1, i, 9));
        for (int i : beyond(0, 20)) refused("cell " + i + " of ints", -12, x -> x.cell(2, i, 9));
        for (int i : beyond(0, 3)) {
            refused("copy 1 from " + i, -12, x -> x.copy(1, i, 1, 0, 1));
            refused("copy 1 to " + i, -12, x -> x.copy(1, 0, 1, i, 1));
            refused("copy 0 from " + i, -12, x -> x.copy(1, i, 1, 0, 0));
            refused("copy 0 to " + i, -12, x -> x.copy(1, 0, 1, i, 0));
            refused("copy of " + i, i == 4 || i < 0 || i > 3 ? -12 : i, x -> x.copy(1, 0, 1, 0, i));
        }
        refused("copy 3 from 1", -12, x -> x.copy(1, 1, 1, 0, 3));
        refused("copy 3 to 1", -12, x -> x.copy(1, 0, 1, 1, 3));
        refused("copy below 0 from outside", -12, x -> x.copy(1, -1, 1, -1, -1));
        refused("copy of unlike sorts", -13, x -> x.copy(0, 0, 1, 0, 1));
        refused("copy of unlike sorts, outside", -13, x -> x.copy(2, -1, 1, 99, -1));
        refused("copy of unlike sorts, none", -13, x -> x.copy(1, 0, 2, 0, 0));
        for (int sort = 0; sort < 3; sort++) {
            int of = sort;
            for (int s = 0; s < 3; s++) {
                int sheet = s;
                if (s != sort) refused("suits of " + s + " for " + of, -13, x -> x.suits(sheet, of, 0, 1));
                if (s != sort) refused("suits of " + s + " for " + of + ", outside", -13, x -> x.suits(sheet, of, -1, 5));
            }
        }
        for (int from : new int[] {-1, 1, 2, 3, 4, Integer.MIN_VALUE, Integer.MAX_VALUE, Integer.MAX_VALUE - 2}) {
            refused("suits from " + from, -12, x -> x.suits(1, 1, from, 1));
        }
        for (int k : new int[] {1, 2, 3, 4, 5}) if (k != 1 && k != 3) refused("taken of 0 for " + k, -13, x -> x.taken(0, k));
        for (int k = 1; k < 6; k++) {
            int of = k;
            refused("taken of 1 for " + of, -13, x -> x.taken(1, of));
            if (k != 5) refused("taken of 2 for " + of, -13, x -> x.taken(2, of));
        }
        // Of an n of 0 there is nothing that could be outside, and of an own tile, set anew, nothing is otherwise.
        refused("suits of none", 0, x -> x.suits(1, 1, 0, 0));
        refused("copy of none, at the ends", 0, x -> x.copy(1, 3, 1, 3, 0));
        refused("set as it is", 11, x -> x.set(4, 0, 11));
    }

    /** Not refused, but in thought alone. */
    private static void thoughts() {
        refused("told", 12, x -> x.told(0, 0));
        refused("leap", 37, x -> x.leap(1, 1));
        for (int what = 0; what < 4; what++) {
            int w = what;
            thought("run " + w, x -> x.run(1, 40, w));
        }
        thought("call", x -> x.call(1, 40, 0));
        thought("meet", x -> x.meet(0, 1));
        thought("reached", x -> x.reached(1, 63));
        thought("fewest", x -> x.fewest(1, 0));
        for (int what = 0; what < 6; what++) {
            int w = what;
            for (int f = 0; f < 3; f++) {
                int found = f;
                thought("best " + f + " " + w, x -> x.best(found, 20, w));
            }
        }
        thought("mean", x -> x.mean(0));
        for (int what = 0; what < 7; what++) {
            int w = what;
            thought("tells " + w, x -> x.tells(0, 1, w));
            thought("tells of another " + w, x -> x.tells(0, 2, w));
        }
        thought("stood", x -> x.stood(0, 1));
        thought("drawn", x -> x.drawn(5, 1, 40));
        thought("chance", x -> x.chance(5, 40, 1, 0));
        thought("count", x -> x.count(0));
        thought("taken", x -> x.taken(0, 3));
        // Film changes its sheet alone: here to what it was.
        thought("film", x -> x.film(0, 1, 20));
    }

    private static void thought(String words, Call call) {
        TilesOfLaw x = new TilesOfLaw();
        inUse(x);
        cases.add(new Case(words, call, call.on(x)));
    }

    private static void whereFull() {
        refused("a sixth party", FULL, x -> x.party(0, 0, 0));
        refused("a sixth party, bad first", BAD, x -> x.party(0, 0, 64));
        refused("minute", STATE, x -> x.minute());
        refused("text", FULL, x -> x.text());
        refused("back", STATE, x -> x.back());
        for (int v : beyond(0, 5)) refused("force " + v, BAD, x -> x.force(v));
        for (int i : beyond(0, 39)) refused("cell " + i, -12, x -> x.cell(1, i, 1));
        refused("copy of 41", -12, x -> x.copy(0, 0, 0, 0, 41));
        refused("copy of 40 from 1", -12, x -> x.copy(0, 1, 0, 0, 40));
        refused("suits: all are left out", 0, x -> x.suits(0, 0, 0, 5));
        refused("suits, outside by one", -12, x -> x.suits(0, 0, 38, 1));
        refused("suits, the last three", 0, x -> x.suits(0, 0, 37, 1));
        refused("tells of a sheet of 40", BAD, x -> x.tells(0, 0, 0));
        refused("stood of a sheet of 40", NO, x -> x.stood(0, 0));
    }

    private static void withFullTape() {
        refused("one byte more", FULL, x -> x.feed(';'));
        refused("0", FULL, x -> x.feed(0));
        refused("255", FULL, x -> x.feed(255));
        refused("256, bad first", BAD, x -> x.feed(256));
        refused("-1, bad first", BAD, x -> x.feed(-1));
        refused("cell of an empty row", -12, x -> x.cell(0, 0, 0));
        refused("suits of an empty row", -12, x -> x.suits(0, 1, 0, 1));
        refused("suits of an empty row, none", 0, x -> x.suits(0, 1, 0, 0));
        refused("copy of an empty row", -12, x -> x.copy(0, 0, 0, 0, 1));
        refused("copy of an empty row, none", 0, x -> x.copy(0, 0, 0, 0, 0));
    }

    private static void suitsThatEndsOutside() {
        sentence("-12: what stood ahead came");
        for (int n = 1; n <= 5; n++) {
            for (int size = 0; size <= 15; size++) {
                TilesOfLaw x = new TilesOfLaw();
                x.sheet(0, 2, size);
                for (int i = 0; i < size; i++) x.cell(0, i, i % 3 == 0 ? i / 3 : i);
                // Numbers 1, 4, 7 may stand; 10 and 13 are none, so that the fourth and the fifth are left out.
                int whole = Math.min(n, size / 3), come = Math.min(3, whole);
                due(n + " of " + size, x.suits(0, 2, 0, n), whole < n ? -12 : come);
                due(n + " of " + size + ", came", x.count(0), come);
            }
        }
    }
}
