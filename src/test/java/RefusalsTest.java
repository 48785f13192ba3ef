import java.util.Arrays;
import java.util.Map;
import java.util.function.Supplier;

/**
 * Each refusal that a promise names: the next below and the next above of each number, the first that fits where two
 * do, and that it changes nothing. Which numbers are taken is told by the tests of the edges.
 */
public final class RefusalsTest {
    private static final Check CHECK = new Check();
    private static final int LEAST = Integer.MIN_VALUE;
    private static final int MOST = Integer.MAX_VALUE;
    private static final int BAD = -2, NOT = -3, FULL = -4;
    private static final int NULL = -11, INDEX = -12, CAST = -13, STORE = -14, SIZE = -15;
    private static final int[] SHEETS = {0, 3};
    private static final int[] FORMS = {0, 2};
    private static final int[] NUMBERS = {0, 9999};
    private static final int[] ANY = {LEAST, MOST};

    /** A call with its arguments as a row. */
    private interface Act {
        long on(ReadFromRight x, int... a);
    }

    public static void main(String[] args) {
        badGoodsAndLaw();
        badPaid();
        badRoundsRentsAndTurns();
        badSheets();
        badGoodsByHowManyThereAre();
        badBillsByHowManyGoodsThereAre();
        badAmounts();
        typeFull();
        proofNot();
        sheetSize();
        nullWithOneSheet();
        nullWithTwoSheets();
        castAheadOfIndex();
        indexOfItems();
        storeAheadOfIndex();
        indexOfCopies();
        getRefusals();
        refusalsThatAreLongs();
        CHECK.end();
    }

    private static void refused(String name, String town, Act act, long due, int... a) {
        Supplier<ReadFromRight> made = Town.all().get(town);
        int finding = due <= NULL && due >= SIZE ? (int) (-10 - due) : 0;
        String call = town + ": " + name + Arrays.toString(a);
        CHECK.refused(call, made, x -> act.on(x, a), due, finding);
    }

    /** In each town, each argument just below and just above its range, the others at both ends of theirs. */
    private static void everyBad(String name, Act act, long due, int[]... ranges) {
        for (String town : Town.all().keySet()) {
            everyBadIn(town, name, act, due, ranges);
        }
    }

    private static void everyBadIn(String town, String name, Act act, long due, int[]... ranges) {
        for (int end = 0; end <= 1; end++) {
            for (int at = 0; at < ranges.length; at++) {
                if (ranges[at] == ANY) {
                    continue;
                }
                int[] beside = {ranges[at][0] - 1, ranges[at][1] + 1, LEAST, MOST};
                for (int wrong : beside) {
                    int[] a = new int[ranges.length];
                    for (int i = 0; i < a.length; i++) {
                        a[i] = i == at ? wrong : ranges[i][end];
                    }
                    refused(name, town, act, due, a);
                }
            }
        }
    }

    private static int[] from(int least, int most) {
        return new int[] {least, most};
    }

    /** In the full town this is BAD ahead of FULL, in towns with a LOST SHEET it is BAD ahead of NULL. */
    private static void badGoodsAndLaw() {
        everyBad("type", (x, a) -> x.type(a[0]), BAD, from(0, 255));
        int[][] law = {{2, 36}, {0, 1}, {0, 99}, {1, 4}};
        for (int what = 0; what < 4; what++) {
            int which = what;
            everyBad("set " + what + " to ", (x, a) -> x.set(which, a[0]), BAD, law[what]);
        }
        everyBad("set to 1 of ", (x, a) -> x.set(a[0], 1), BAD, from(0, 3));
        everyBad("partner", (x, a) -> x.partner(a[0], a[1]), BAD, from(0, 7), from(0, 3));
        everyBad("read", (x, a) -> x.read(a[0]), BAD, SHEETS);
    }

    /** In the new town and in that with a FAULT proof is BAD ahead of NOT. */
    private static void badPaid() {
        everyBad("paid", (x, a) -> x.paid(a[0]), BAD, NUMBERS);
        everyBad("bought", (x, a) -> x.bought(a[0]), BAD, from(0, 3));
        everyBad("added", (x, a) -> x.added(a[0]), BAD, NUMBERS);
        everyBad("proof", (x, a) -> x.proof(a[0], a[1]), -100002, from(1, 8), from(0, 1));
        everyBad("count", (x, a) -> x.count(a[0]), BAD, from(0, 8));
    }

    private static void badRoundsRentsAndTurns() {
        everyBad("rounds", (x, a) -> x.rounds(a[0], a[1], a[2]), BAD, NUMBERS, NUMBERS, from(0, 2));
        everyBad("figures", (x, a) -> x.figures(a[0], a[1]), BAD, from(1, 3), from(0, 3));
        everyBad("rent", (x, a) -> x.rent(a[0], a[1], a[2]), BAD, from(0, 120), from(1, 6), from(0, 1));
        everyBad("smudged", (x, a) -> x.smudged(a[0], a[1]), BAD, SHEETS, from(0, 1));
        everyBad("game", (x, a) -> x.game(a[0], a[1], a[2], a[3]), BAD,
            from(0, 200), from(2, 1022), from(1, 200), from(0, 1));
    }

    private static void badSheets() {
        everyBad("sheet", (x, a) -> x.sheet(a[0], a[1], a[2]), BAD, SHEETS, FORMS, ANY);
        everyBad("sheet of 5", (x, a) -> x.sheet(a[0], a[1], 5), BAD, SHEETS, FORMS);
        everyBad("lose", (x, a) -> x.lose(a[0]), BAD, SHEETS);
        everyBad("lay", (x, a) -> x.lay(a[0], a[1], a[2], a[3]), BAD, SHEETS, FORMS, ANY, ANY);
        everyBad("lay at 0", (x, a) -> x.lay(a[0], a[1], 0, 1), BAD, SHEETS, FORMS);
        everyBad("copy", (x, a) -> x.copy(a[0], a[1], a[2], a[3], a[4]), BAD, SHEETS, ANY, SHEETS, ANY, ANY);
        everyBad("copy of 1", (x, a) -> x.copy(a[0], 0, a[1], 0, 1), BAD, SHEETS, SHEETS);
        everyBad("write", (x, a) -> x.write(a[0], a[1]), BAD, NUMBERS, SHEETS);
        for (String town : Town.all().keySet()) {
            for (int n : new int[] {61, 62, MOST}) {
                refused("sheet above 60", town, (x, a) -> x.sheet(a[0], a[1], a[2]), BAD, 1, 1, n);
            }
        }
    }

    private static void badGoodsByHowManyThereAre() {
        Map<String, Integer> greatest = Map.of("busy", 2, "eight", 7);
        greatest.forEach((town, most) -> {
            everyBadIn(town, "good", (x, a) -> x.good(a[0], a[1]), BAD, from(0, most), from(0, 2));
            everyBadIn(town, "raised", (x, a) -> x.raised(a[0], a[1]), BAD, from(0, most), from(0, 999));
        });
        for (String town : new String[] {"new", "full"}) {
            for (int good = -1; good <= 8; good++) {
                for (int what = 0; what <= 2; what++) {
                    refused("good", town, (x, a) -> x.good(a[0], a[1]), BAD, good, what);
                }
                refused("raised", town, (x, a) -> x.raised(a[0], a[1]), BAD, good, 999);
            }
        }
    }

    private static void badBillsByHowManyGoodsThereAre() {
        Act bill = (x, a) -> x.bill(a[0], a[1]);
        everyBadIn("busy", "bill", bill, BAD, from(1, 7), from(0, 1));
        everyBadIn("eight", "bill", bill, BAD, from(1, 255), from(0, 1));
        for (int what = 0; what <= 1; what++) {
            refused("bill with one that there is not", "busy", bill, BAD, 8 | 1, what);
            refused("bill with one that there is not", "eight", bill, BAD, 256 | 255, what);
            refused("bill with the highest bit", "eight", bill, BAD, LEAST | 1, what);
            refused("bill of none", "new", bill, BAD, 0, what);
            refused("bill without GOODS", "new", bill, BAD, 1, what);
            refused("bill with a FAULT", "full", bill, BAD, 1, what);
        }
    }

    private static void badAmounts() {
        Act game = (x, a) -> x.game(a[0], a[1], a[2], a[3]);
        for (int what = 0; what <= 1; what++) {
            for (int amounts : new int[] {0, 1, 3, 1023, 1024, 1026, 2046, 2047, -1, -2, LEAST, LEAST | 2, 1 << 30}) {
                refused("game", "busy", game, BAD, 5, amounts, 31, what);
                refused("game at its END already", "new", game, BAD, 31, amounts, 31, what);
            }
        }
    }

    private static void typeFull() {
        for (int b : new int[] {0, 1, ';', '5', 'w', 255}) {
            refused("type", "full", (x, a) -> x.type(a[0]), FULL, b);
        }
    }

    private static void proofNot() {
        for (String town : new String[] {"new", "full"}) {
            for (int what = 0; what <= 1; what++) {
                refused("proof", town, (x, a) -> x.proof(a[0], a[1]), -100003, 1, what);
                refused("proof", town, (x, a) -> x.proof(a[0], a[1]), -100003, 8, what);
            }
        }
        CHECK.due("NOT is told as any number", -100003, -100000 + NOT);
    }

    private static void sheetSize() {
        for (String town : Town.all().keySet()) {
            for (int n : new int[] {-1, -60, LEAST}) {
                refused("sheet", town, (x, a) -> x.sheet(a[0], a[1], a[2]), SIZE, 0, 0, n);
                refused("sheet", town, (x, a) -> x.sheet(a[0], a[1], a[2]), SIZE, 3, 2, n);
            }
        }
    }

    /** Whatever else does not fit, short of a BAD number. */
    private static void nullWithOneSheet() {
        int[][] lost = {{0, 1, 2, 3}, {3}, {}, {0, 2, 3}};
        int at = 0;
        for (String town : Town.all().keySet()) {
            for (int s : lost[at++]) {
                refused("read", town, (x, a) -> x.read(a[0]), NULL, s);
                refused("smudged", town, (x, a) -> x.smudged(a[0], a[1]), NULL, s, 0);
                refused("smudged", town, (x, a) -> x.smudged(a[0], a[1]), NULL, s, 1);
                refused("lose", town, (x, a) -> x.lose(a[0]), NULL, s);
                refused("write", town, (x, a) -> x.write(a[0], a[1]), NULL, 0, s);
                refused("write", town, (x, a) -> x.write(a[0], a[1]), NULL, 9999, s);
                for (int form = 0; form <= 2; form++) {
                    for (int i : new int[] {LEAST, -1, 0, 60, MOST}) {
                        refused("lay", town, (x, a) -> x.lay(a[0], a[1], a[2], a[3]), NULL, s, form, i, 7);
                    }
                }
            }
        }
    }

    private static void nullWithTwoSheets() {
        Act copy = (x, a) -> x.copy(a[0], a[1], a[2], a[3], a[4]);
        for (int there = 0; there <= 2; there++) {
            refused("copy of a LOST one", "busy", copy, NULL, 3, 0, there, 0, 1);
            refused("copy to a LOST one", "busy", copy, NULL, there, 0, 3, 0, 1);
            refused("NULL ahead of INDEX", "busy", copy, NULL, there, -1, 3, 99, -1);
            refused("NULL ahead of INDEX", "busy", copy, NULL, 3, 99, there, -1, MOST);
        }
        refused("copy of a LOST one to itself", "busy", copy, NULL, 3, 0, 3, 0, 0);
        refused("copy, both LOST", "new", copy, NULL, 0, 0, 1, 0, 0);
    }

    private static void castAheadOfIndex() {
        Act lay = (x, a) -> x.lay(a[0], a[1], a[2], a[3]);
        for (int s = 0; s <= 2; s++) {
            for (int form = 0; form <= 2; form++) {
                if (form != s) {
                    for (int i : new int[] {0, 1, -1, 4, LEAST, MOST}) {
                        refused("lay", "busy", lay, CAST, s, form, i, 1);
                    }
                }
            }
        }
        refused("lay in an empty one", "eight", lay, CAST, 1, 0, 0, 1);
    }

    private static void indexOfItems() {
        Act lay = (x, a) -> x.lay(a[0], a[1], a[2], a[3]);
        int[] items = {3, 2, 4};
        for (int s = 0; s <= 2; s++) {
            for (int i : new int[] {-1, items[s], items[s] + 1, 59, 60, LEAST, MOST}) {
                refused("lay", "busy", lay, INDEX, s, s, i, 1);
            }
        }
        refused("lay behind sixty", "eight", lay, INDEX, 0, 2, 60, 1);
        refused("lay in an empty one", "eight", lay, INDEX, 1, 2, 0, 1);
    }

    private static void storeAheadOfIndex() {
        Act copy = (x, a) -> x.copy(a[0], a[1], a[2], a[3], a[4]);
        for (int s = 0; s <= 2; s++) {
            for (int t = 0; t <= 2; t++) {
                if (s != t) {
                    refused("copy", "busy", copy, STORE, s, 0, t, 0, 1);
                    refused("copy of nothing", "busy", copy, STORE, s, 0, t, 0, 0);
                    refused("STORE ahead of INDEX", "busy", copy, STORE, s, -1, t, 99, -1);
                }
            }
        }
        refused("copy, both empty", "eight", copy, STORE, 1, 0, 2, 0, 0);
    }

    private static void indexOfCopies() {
        Act copy = (x, a) -> x.copy(a[0], a[1], a[2], a[3], a[4]);
        int[][] within = {{-1, 0, 1}, {0, -1, 1}, {0, 0, -1}, {-1, 0, 0}, {0, -1, 0}, {0, 0, 4}, {1, 0, 3}, {0, 1, 3},
            {3, 0, 1}, {0, 3, 1}, {4, 0, 0}, {0, 4, 0}, {-1, 0, 2}, {1, 1, -1}, {3, 3, -1}, {LEAST, 0, 0},
            {0, LEAST, 0}, {0, 0, LEAST}, {MOST, 0, 1}, {0, MOST, 1}, {0, 0, MOST}, {MOST, MOST, MOST},
            {1, 0, MOST}, {0, 1, MOST}, {MOST, 0, MOST}, {LEAST, LEAST, LEAST}};
        for (int[] one : within) {
            refused("copy of three to itself", "busy", copy, INDEX, 0, one[0], 0, one[1], one[2]);
        }
        refused("copy of one more than there are", "eight", copy, INDEX, 0, 0, 0, 0, 61);
        refused("copy to one with fewer", "eight", copy, INDEX, 0, 0, 1, 0, 1);
        refused("copy of one with fewer", "eight", copy, INDEX, 1, 0, 0, 0, 1);
        refused("copy ends behind sixty", "eight", copy, INDEX, 0, 1, 0, 0, 60);
    }

    /** All are told by the least int; which FINDING it is by count() 8. */
    private static void getRefusals() {
        Act get = (x, a) -> x.get(a[0], a[1], a[2]);
        everyBad("get", get, LEAST, SHEETS, FORMS, ANY);
        everyBad("get at 0", (x, a) -> x.get(a[0], a[1], 0), LEAST, SHEETS, FORMS);
        int[][] of = {{3, 0, 0, 1}, {3, 2, -1, 1}, {3, 1, MOST, 1}, {0, 1, 0, 3}, {0, 2, 3, 3}, {1, 0, -1, 3},
            {2, 0, 4, 3}, {0, 0, -1, 2}, {0, 0, 3, 2}, {1, 1, 2, 2}, {2, 2, 4, 2}, {2, 2, LEAST, 2}, {2, 2, MOST, 2}};
        for (int[] one : of) {
            CHECK.refused("busy: get(" + one[0] + ", " + one[1] + ", " + one[2] + ")", Town::busy,
                x -> x.get(one[0], one[1], one[2]), LEAST, one[3]);
        }
        CHECK.refused("eight: get(0, 2, 60)", Town::eight, x -> x.get(0, 2, 60), LEAST, 2);
        CHECK.refused("eight: get(1, 2, 0)", Town::eight, x -> x.get(1, 2, 0), LEAST, 2);
    }

    private static void refusalsThatAreLongs() {
        everyBad("share", (x, a) -> x.share(a[0], a[1]), Long.MIN_VALUE + 2, from(0, 3), from(0, 1));
    }
}
