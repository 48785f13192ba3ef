/** Promises 21 to 28: each sentence that names an edge, for itself. What is refused there is in RefusalsTest, too. */
public final class SheetsEdgesTest {
    private static final Check CHECK = new Check();
    private static final int LEAST = Integer.MIN_VALUE;
    private static final int MOST = Integer.MAX_VALUE;

    public static void main(String[] args) {
        promise21NoughtToSixtyItems();
        promise21ItemsAreNoughtAtFirst();
        promise21ANewRowForAnOldOne();
        promise21SheetsAreApart();
        promise22HowManyItemsItHad();
        promise22LostIsLost();
        promise23TheLowestBits();
        promise23FirstAndLastItem();
        promise24LeastAndGreatestItem();
        promise25AllOfOneAndNoneOfOne();
        promise25AsTheyWere();
        promise25BothEnds();
        promise26NoneOfNought();
        promise26AsManyAsItemsAndFigures();
        promise26LeastAndGreatestNumber();
        promise26ToEachForm();
        promise27NoughtToEight();
        promise27EmptyAndFull();
        promise27TheLatestFinding();
        promise28EmptyFullAndWithAFault();
        promise28FindingsAreNoPartOfIt();
        CHECK.end();
    }

    private static void items(String of, ReadFromRight x, int s, int form, int... due) {
        int latest = x.count(8);
        for (int i = 0; i < due.length; i++) {
            CHECK.due(of + ": get(" + s + ", " + form + ", " + i + ")", x.get(s, form, i), due[i]);
        }
        CHECK.due(of + ": items that there are make no FINDING", x.count(8), latest);
        CHECK.due(of + ": one more", x.get(s, form, due.length), LEAST);
        CHECK.due(of + ": one more is an INDEX", x.count(8), 2);
    }

    private static void promise21NoughtToSixtyItems() {
        for (int n = 0; n <= 60; n++) {
            ReadFromRight x = new ReadFromRight();
            CHECK.due("sheet(" + n % 4 + ", " + n % 3 + ", " + n + ")", x.sheet(n % 4, n % 3, n), n);
            CHECK.due("no FINDING", x.count(8), 0);
            CHECK.due("the next behind " + n, x.lay(n % 4, n % 3, n, 1), -12);
            CHECK.due("lose(" + n % 4 + ")", x.lose(n % 4), n);
        }
        ReadFromRight x = new ReadFromRight();
        CHECK.due("sheet(0, 0, 61)", x.sheet(0, 0, 61), ReadFromRight.BAD);
        CHECK.due("sheet(0, 0, -1)", x.sheet(0, 0, -1), -15);
        CHECK.due("it is LOST as it was", x.lose(0), -11);
    }

    private static void promise21ItemsAreNoughtAtFirst() {
        for (int form = 0; form <= 2; form++) {
            ReadFromRight x = new ReadFromRight();
            x.sheet(form, form, 60);
            items("sixty of form " + form, x, form, form, new int[60]);
        }
    }

    private static void promise21ANewRowForAnOldOne() {
        ReadFromRight x = new ReadFromRight();
        Check.fill(x, 2, 1, 7, 8, 9);
        CHECK.due("the same FORM: sheet(2, 1, 3)", x.sheet(2, 1, 3), 3);
        items("the same FORM", x, 2, 1, 0, 0, 0);
        Check.fill(x, 2, 1, 7, 8, 9);
        CHECK.due("fewer: sheet(2, 1, 1)", x.sheet(2, 1, 1), 1);
        items("fewer", x, 2, 1, 0);
        CHECK.due("more: sheet(2, 1, 4)", x.sheet(2, 1, 4), 4);
        items("more", x, 2, 1, 0, 0, 0, 0);
        CHECK.due("another FORM: sheet(2, 0, 2)", x.sheet(2, 0, 2), 2);
        items("another FORM", x, 2, 0, 0, 0);
        CHECK.due("the old FORM", x.lay(2, 1, 0, 1), -13);
    }

    private static void promise21SheetsAreApart() {
        ReadFromRight x = new ReadFromRight();
        for (int s = 0; s <= 3; s++) {
            x.sheet(s, 2, 60);
            x.lay(s, 2, 0, 10 + s);
            x.lay(s, 2, 59, 20 + s);
        }
        for (int s = 0; s <= 3; s++) {
            CHECK.due("get(" + s + ", 2, 0)", x.get(s, 2, 0), 10 + s);
            CHECK.due("get(" + s + ", 2, 59)", x.get(s, 2, 59), 20 + s);
        }
        x.lose(1);
        CHECK.due("the one ahead is there: lose(0)", x.lose(0), 60);
        CHECK.due("the one behind is there: lose(2)", x.lose(2), 60);
        CHECK.due("but it is not: lose(1)", x.lose(1), -11);
    }

    private static void promise22HowManyItemsItHad() {
        int[] items = {0, 1, 59, 60};
        ReadFromRight x = new ReadFromRight();
        for (int s = 0; s <= 3; s++) {
            x.sheet(s, s % 3, items[s]);
            CHECK.due("lose(" + s + ")", x.lose(s), items[s]);
            CHECK.due("no FINDING is made by it", x.count(8), s == 0 ? 0 : 1);
            CHECK.due("lose(" + s + ") again", x.lose(s), -11);
        }
    }

    private static void promise22LostIsLost() {
        ReadFromRight x = new ReadFromRight();
        Check.fill(x, 1, 0, 1, 2, 3);
        Check.fill(x, 2, 0, 4, 5, 6);
        x.lose(1);
        CHECK.due("read(1)", x.read(1), -11);
        CHECK.due("smudged(1, 0)", x.smudged(1, 0), -11);
        CHECK.due("lay(1, 0, 0, 1)", x.lay(1, 0, 0, 1), -11);
        CHECK.due("get(1, 0, 0)", x.get(1, 0, 0), LEAST);
        CHECK.due("copy(1, 0, 2, 0, 1)", x.copy(1, 0, 2, 0, 1), -11);
        CHECK.due("copy(2, 0, 1, 0, 1)", x.copy(2, 0, 1, 0, 1), -11);
        CHECK.due("write(5, 1)", x.write(5, 1), -11);
        items("another is as it was", x, 2, 0, 4, 5, 6);
        CHECK.due("sheet(1, 0, 3)", x.sheet(1, 0, 3), 3);
        items("a new row", x, 1, 0, 0, 0, 0);
    }

    private static void promise23TheLowestBits() {
        int[][] bytes = {{127, 127}, {128, -128}, {-128, -128}, {-129, 127}, {255, -1}, {256, 0}, {-256, 0}, {-1, -1},
            {MOST, -1}, {LEAST, 0}, {0x1280, -128}};
        int[][] shorts = {{32767, 32767}, {32768, -32768}, {-32768, -32768}, {-32769, 32767}, {65535, -1}, {65536, 0},
            {128, 128}, {-129, -129}, {MOST, -1}, {LEAST, 0}};
        int[][] ints = {{MOST, MOST}, {LEAST, LEAST}, {65536, 65536}, {-32769, -32769}, {-1, -1}, {0, 0}};
        int[][][] all = {bytes, shorts, ints};
        for (int form = 0; form <= 2; form++) {
            for (int[] one : all[form]) {
                ReadFromRight x = new ReadFromRight();
                x.sheet(0, form, 1);
                CHECK.due("lay(0, " + form + ", 0, " + one[0] + ")", x.lay(0, form, 0, one[0]), 1);
                CHECK.due("laid by " + one[0] + ": get(0, " + form + ", 0)", x.get(0, form, 0), one[1]);
            }
        }
    }

    private static void promise23FirstAndLastItem() {
        for (int form = 0; form <= 2; form++) {
            ReadFromRight x = new ReadFromRight();
            x.sheet(3, form, 60);
            CHECK.due("lay at 0", x.lay(3, form, 0, 5), 1);
            CHECK.due("lay at 59", x.lay(3, form, 59, 6), 1);
            CHECK.due("lay at 60", x.lay(3, form, 60, 7), -12);
            CHECK.due("lay at -1", x.lay(3, form, -1, 8), -12);
            int[] due = new int[60];
            due[0] = 5;
            due[59] = 6;
            items("laid at both ends", x, 3, form, due);
            CHECK.due("lay at 0 again", x.lay(3, form, 0, 9), 1);
            CHECK.due("laid again", x.get(3, form, 0), 9);
        }
    }

    /** The least int may be an item; count() 8 tells that it is no refusal. */
    private static void promise24LeastAndGreatestItem() {
        ReadFromRight x = new ReadFromRight();
        Check.fill(x, 0, 2, LEAST, MOST);
        CHECK.due("get(0, 2, 0)", x.get(0, 2, 0), LEAST);
        CHECK.due("count(8)", x.count(8), 0);
        CHECK.due("get(0, 2, 1)", x.get(0, 2, 1), MOST);
        CHECK.due("count(8)", x.count(8), 0);
        CHECK.due("BAD: get(4, 2, 0)", x.get(4, 2, 0), LEAST);
        CHECK.due("BAD: get(0, 3, 0)", x.get(0, 3, 0), LEAST);
        CHECK.due("BAD is no FINDING", x.count(8), 0);
        CHECK.due("CAST ahead of INDEX: get(0, 1, 2)", x.get(0, 1, 2), LEAST);
        CHECK.due("count(8)", x.count(8), 3);
        CHECK.due("INDEX: get(0, 2, 2)", x.get(0, 2, 2), LEAST);
        CHECK.due("count(8)", x.count(8), 2);
        CHECK.due("NULL: get(1, 0, -1)", x.get(1, 0, -1), LEAST);
        CHECK.due("count(8)", x.count(8), 1);
    }

    private static void promise25AllOfOneAndNoneOfOne() {
        ReadFromRight x = new ReadFromRight();
        int[] sixty = new int[60];
        for (int i = 0; i < 60; i++) {
            sixty[i] = i - 30;
        }
        Check.fill(x, 0, 0, sixty);
        x.sheet(1, 0, 60);
        CHECK.due("copy(0, 0, 1, 0, 60)", x.copy(0, 0, 1, 0, 60), 1);
        items("all sixty", x, 1, 0, sixty);
        CHECK.due("copy(0, 0, 1, 0, 61)", x.copy(0, 0, 1, 0, 61), -12);
        CHECK.due("copy(0, 0, 1, 0, 0)", x.copy(0, 0, 1, 0, 0), 1);
        CHECK.due("copy(0, 60, 1, 60, 0)", x.copy(0, 60, 1, 60, 0), 1);
        CHECK.due("copy(0, 61, 1, 0, 0)", x.copy(0, 61, 1, 0, 0), -12);
        CHECK.due("copy(0, 0, 1, 61, 0)", x.copy(0, 0, 1, 61, 0), -12);
        items("none", x, 1, 0, sixty);
        x.sheet(2, 0, 0);
        CHECK.due("of an empty one: copy(2, 0, 0, 0, 0)", x.copy(2, 0, 0, 0, 0), 1);
        CHECK.due("of an empty one to itself: copy(2, 0, 2, 0, 0)", x.copy(2, 0, 2, 0, 0), 1);
        CHECK.due("of an empty one: copy(2, 0, 0, 0, 1)", x.copy(2, 0, 0, 0, 1), -12);
    }

    private static void promise25AsTheyWere() {
        for (int form = 0; form <= 2; form++) {
            ReadFromRight x = new ReadFromRight();
            Check.fill(x, 3, form, 1, 2, 3, 4, 5);
            CHECK.due("upwards by one", x.copy(3, 0, 3, 1, 4), 1);
            items("upwards by one", x, 3, form, 1, 1, 2, 3, 4);
            Check.fill(x, 3, form, 1, 2, 3, 4, 5);
            CHECK.due("downwards by one", x.copy(3, 1, 3, 0, 4), 1);
            items("downwards by one", x, 3, form, 2, 3, 4, 5, 5);
            CHECK.due("to where they are", x.copy(3, 0, 3, 0, 5), 1);
            items("to where they are", x, 3, form, 2, 3, 4, 5, 5);
        }
    }

    private static void promise25BothEnds() {
        ReadFromRight x = new ReadFromRight();
        Check.fill(x, 0, 2, LEAST, 2, MOST);
        Check.fill(x, 1, 2, 7, 7);
        CHECK.due("the last to the first", x.copy(0, 2, 1, 0, 1), 1);
        items("the last to the first", x, 1, 2, MOST, 7);
        CHECK.due("the first to the last", x.copy(0, 0, 1, 1, 1), 1);
        items("the first to the last", x, 1, 2, MOST, LEAST);
        CHECK.due("one too many there", x.copy(0, 0, 1, 0, 3), -12);
        CHECK.due("one too many here", x.copy(1, 0, 0, 0, 3), -12);
        items("that changes nothing there", x, 1, 2, MOST, LEAST);
        items("nor here", x, 0, 2, LEAST, 2, MOST);
        CHECK.due("as many as there are", x.copy(1, 0, 0, 1, 2), 1);
        items("as many as there are", x, 0, 2, LEAST, MOST, LEAST);
    }

    private static void promise26NoneOfNought() {
        for (int base : new int[] {2, 10, 36}) {
            ReadFromRight x = new ReadFromRight();
            x.set(0, base);
            Check.fill(x, 0, 0, 7, 7);
            CHECK.due("to " + base + ": write(0, 0)", x.write(0, 0), 0);
            items("to " + base + ": none of 0", x, 0, 0, 7, 7);
        }
    }

    private static void promise26AsManyAsItemsAndFigures() {
        int[] figures = {9, 8, 7, 6};
        for (int n = 0; n <= 6; n++) {
            ReadFromRight x = new ReadFromRight();
            x.sheet(2, 1, n);
            int written = Math.min(n, 4);
            CHECK.due("to " + n + " items: write(9876, 2)", x.write(9876, 2), written);
            for (int i = 0; i < n; i++) {
                CHECK.due("of " + n + ": get(2, 1, " + i + ")", x.get(2, 1, i), i < 4 ? figures[i] : 0);
            }
        }
    }

    private static void promise26LeastAndGreatestNumber() {
        int[] bases = {2, 3, 4, 9, 10, 21, 22, 35, 36};
        int[] figures = {14, 9, 7, 5, 4, 4, 3, 3, 3};
        for (int b = 0; b < bases.length; b++) {
            ReadFromRight x = new ReadFromRight();
            x.set(0, bases[b]);
            x.set(1, b % 2);
            x.sheet(0, 0, 60);
            CHECK.due("to " + bases[b] + ": write(1, 0)", x.write(1, 0), 1);
            CHECK.due("to " + bases[b] + ": get(0, 0, 0)", x.get(0, 0, 0), 1);
            CHECK.due("to " + bases[b] + ": write(9999, 0)", x.write(9999, 0), figures[b]);
            int number = 0;
            for (int i = 0; i < figures[b]; i++) {
                number = number * bases[b] + x.get(0, 0, i);
            }
            CHECK.due("to " + bases[b] + ": its figures", number, 9999);
            CHECK.due("to " + bases[b] + ": noughts at the end are figures", x.write(bases[b], 0), 2);
            CHECK.due("to " + bases[b] + ": the nought", x.get(0, 0, 1), 0);
            CHECK.due("write(10000, 0)", x.write(10000, 0), ReadFromRight.BAD);
            CHECK.due("write(-1, 0)", x.write(-1, 0), ReadFromRight.BAD);
        }
    }

    private static void promise26ToEachForm() {
        for (int form = 0; form <= 2; form++) {
            for (int s = 0; s <= 3; s++) {
                ReadFromRight x = new ReadFromRight();
                x.set(0, 36);
                Check.fill(x, s, form, 5, 5, 5);
                CHECK.due("write(1295, " + s + ")", x.write(1295, s), 2);
                items("the greatest figures", x, s, form, 35, 35, 5);
            }
        }
    }

    private static void promise27NoughtToEight() {
        ReadFromRight x = Town.busy();
        int[] due = {3, 11, 2, 130, 7, 1, 42, 3, 5};
        for (int what = 0; what <= 8; what++) {
            CHECK.due("count(" + what + ")", x.count(what), due[what]);
        }
        CHECK.due("count(-1)", x.count(-1), ReadFromRight.BAD);
        CHECK.due("count(9)", x.count(9), ReadFromRight.BAD);
    }

    private static void promise27EmptyAndFull() {
        int[] none = {0, 0, 0, 0};
        int[] eight = {8, 39, 4, 7992};
        int[] full = {0, 50, 0, 0};
        for (int what = 0; what <= 3; what++) {
            CHECK.due("new: count(" + what + ")", new ReadFromRight().count(what), none[what]);
            CHECK.due("eight: count(" + what + ")", Town.eight().count(what), eight[what]);
            CHECK.due("full: count(" + what + ")", Town.full().count(what), full[what]);
        }
        ReadFromRight wanted = Check.withGoods("1w;1w;1w;1w;1w;1w;1w;1w");
        CHECK.due("all eight are wanted", wanted.count(2), 8);
        CHECK.due("all PRICES", wanted.count(3), 8);
        CHECK.due("none is wanted", Check.withGoods("1t;1t").count(2), 0);
    }

    private static void promise27TheLatestFinding() {
        ReadFromRight x = new ReadFromRight();
        CHECK.due("before any: count(8)", x.count(8), 0);
        x.sheet(0, 0, -1);
        CHECK.due("SIZE: count(8)", x.count(8), 5);
        x.lose(0);
        CHECK.due("NULL: count(8)", x.count(8), 1);
        x.sheet(0, 0, 1);
        x.sheet(1, 1, 1);
        CHECK.due("what is well leaves it: count(8)", x.count(8), 1);
        x.copy(0, 0, 1, 0, 1);
        CHECK.due("STORE: count(8)", x.count(8), 4);
        x.lay(0, 1, 0, 0);
        CHECK.due("CAST: count(8)", x.count(8), 3);
        x.lay(0, 0, 1, 0);
        CHECK.due("INDEX: count(8)", x.count(8), 2);
        x.count(9);
        x.sheet(0, 0, 61);
        x.proof(1, 0);
        x.proof(0, 0);
        CHECK.due("BAD and NOT leave it: count(8)", x.count(8), 2);
        for (int have = 0; have <= 50; have++) {
            x.type('1');
        }
        CHECK.due("FULL leaves it: count(8)", x.count(8), 2);
        x.wipe();
        x.digest();
        CHECK.due("wipe() and digest() leave it: count(8)", x.count(8), 2);
    }

    private static long digestByCalls(ReadFromRight x) {
        long h = 17;
        for (int what = 0; what <= 7; what++) {
            h = h * 31 + x.count(what);
        }
        h = h * 31 + x.fault();
        for (int good = 0; good < x.count(0); good++) {
            h = h * 31 + x.good(good, 0);
            h = h * 31 + x.good(good, 1);
            h = h * 31 + x.good(good, 2);
            h = h * 31 + x.paid(x.good(good, 0));
            h = h * 31 + x.raised(good, 20);
        }
        int[] single = {x.bought(0), x.bought(1), x.bought(2), x.bought(3), x.added(120), x.proof(8, 0), x.proof(8, 1),
            x.rounds(500, 21, 0), x.rounds(500, 21, 1), x.rounds(500, 21, 2)};
        for (int one : single) {
            h = h * 31 + one;
        }
        for (int i = 0; i < 12; i++) {
            h = h * 31 + x.figures(1 + i / 4, i % 4);
        }
        h = h * 31 + x.rent(60, 3, 0);
        h = h * 31 + x.rent(60, 3, 1);
        for (int i = 0; i < 8; i++) {
            h = h * 31 + x.share(i / 2, i % 2);
        }
        h = h * 31 + x.game(5, 14, 31, 0);
        return h * 31 + x.game(5, 14, 31, 1);
    }

    private static void promise28EmptyFullAndWithAFault() {
        CHECK.due("digest() of a new one", new ReadFromRight().digest(), -8397272453921907114L);
        Town.all().forEach((name, town) ->
            CHECK.due("digest(), " + name, town.get().digest(), digestByCalls(town.get())));
        for (int base = 2; base <= 36; base++) {
            for (int noughts = 0; noughts <= 1; noughts++) {
                ReadFromRight x = Check.withGoods("12w;9t;109w;20t");
                Check.fill(x, 0, 0, 0, 1, 2, 3);
                x.read(0);
                x.set(0, base);
                x.set(1, noughts);
                x.set(2, base);
                x.set(3, 1 + base % 4);
                long first = x.digest();
                CHECK.due("to " + base + ", noughts " + noughts + ": digest()", first, digestByCalls(x));
                CHECK.due("to " + base + ", noughts " + noughts + ": digest() again", x.digest(), first);
            }
        }
    }

    private static void promise28FindingsAreNoPartOfIt() {
        ReadFromRight x = Town.busy();
        long first = x.digest();
        x.lose(3);
        CHECK.due("behind a FINDING: digest()", x.digest(), first);
        CHECK.due("count(8)", x.count(8), 1);
        x.lose(0);
        CHECK.due("behind a SHEET that is LOST: digest()", x.digest(), first);
    }
}
