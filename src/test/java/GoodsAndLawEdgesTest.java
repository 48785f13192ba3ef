/** Promises 1 to 8: each sentence that names an edge, for itself. What is refused there is in RefusalsTest, too. */
public final class GoodsAndLawEdgesTest {
    private static final Check CHECK = new Check();
    private static final String EIGHT = "999w;999t;999w;999t;999w;999t;999w;999t";

    public static void main(String[] args) {
        promise1NoGoodsAtFirst();
        promise1AllSheetsAreLostAtFirst();
        promise1LawAndPartnersAtFirst();
        promise1ObjectsShareNothing();
        promise1UsedFor512Calls();
        promise2EachByteIsTaken();
        promise2FiftyBytesAndNotOneMore();
        promise2FiftyAgainBehindWipe();
        promise3WipeTellsBytesNotGoods();
        promise3WipeLeavesAllElse();
        promise3NothingOfTheOldTextIsLeft();
        promise4EmptyTextIsWell();
        promise4PricesFromOneTo999();
        promise4PriceOfNought();
        promise4NotEnded();
        promise4FirstByteThatCannotGoOn();
        promise4EightGoodsAtMost();
        promise4WithAFaultThereAreNone();
        promise5EachOfEight();
        promise6EachValueOfTheLaw();
        promise7EachPartnerOfEach();
        promise8ItemsThatMayBe();
        promise8EightAtMost();
        promise8StopsAtTheFirstThatMayNotBe();
        CHECK.end();
    }

    private static void fault(String text, int due) {
        CHECK.due("fault() of '" + text + "'", Check.withGoods(text).fault(), due);
    }

    private static void promise1NoGoodsAtFirst() {
        ReadFromRight x = new ReadFromRight();
        for (int what = 0; what <= 3; what++) {
            CHECK.due("new: count(" + what + ")", x.count(what), 0);
            CHECK.due("new: bought(" + what + ")", x.bought(what), 0);
        }
        CHECK.due("new: good(0, 0)", x.good(0, 0), ReadFromRight.BAD);
        CHECK.due("new: bill(1, 0)", x.bill(1, 0), ReadFromRight.BAD);
        CHECK.due("new: proof(1, 0)", x.proof(1, 0), -100003);
        CHECK.due("new: wipe()", x.wipe(), 0);
    }

    private static void promise1AllSheetsAreLostAtFirst() {
        for (int s = 0; s <= 3; s++) {
            ReadFromRight x = new ReadFromRight();
            CHECK.due("new: read(" + s + ")", x.read(s), -11);
            CHECK.due("new: smudged(" + s + ", 0)", x.smudged(s, 0), -11);
            CHECK.due("new: lay(" + s + ", 0, 0, 0)", x.lay(s, 0, 0, 0), -11);
            CHECK.due("new: write(0, " + s + ")", x.write(0, s), -11);
            CHECK.due("new: copy(" + s + ", 0, " + s + ", 0, 0)", x.copy(s, 0, s, 0, 0), -11);
            CHECK.due("new: get(" + s + ", 0, 0)", x.get(s, 0, 0), Integer.MIN_VALUE);
            CHECK.due("new: lose(" + s + ")", x.lose(s), -11);
        }
    }

    private static void promise1LawAndPartnersAtFirst() {
        ReadFromRight x = new ReadFromRight();
        int[] first = {10, 0, 0, 1};
        for (int what = 0; what <= 3; what++) {
            CHECK.due("new: count(" + (4 + what) + ")", x.count(4 + what), first[what]);
        }
        CHECK.due("new: no FINDING", x.count(8), 0);
        for (int good = 0; good < 8; good++) {
            CHECK.due("new: partner(" + good + ", 3)", x.partner(good, 3), 0);
        }
    }

    private static void promise1ObjectsShareNothing() {
        ReadFromRight before = new ReadFromRight();
        Town.busy();
        Town.eight();
        ReadFromRight behind = new ReadFromRight();
        CHECK.due("count(8) of one made ahead", before.count(8), 0);
        CHECK.due("count(8) of one made behind", behind.count(8), 0);
        CHECK.isTrue("both are as new", Town.whole(before).equals(Town.whole(behind)));
        CHECK.due("digest() as of a new one", new ReadFromRight().digest(), -8397272453921907114L);
    }

    /** The last calls that an object is promised for answer as the first ones do. */
    private static void promise1UsedFor512Calls() {
        ReadFromRight x = Check.withGoods("12w;9w;9t");
        long first = x.digest();
        for (int calls = 10; calls < 508; calls += 3) {
            x.set(0, 2 + calls % 35);
            x.rounds(9999, calls, 0);
            x.lose(calls % 4);
        }
        CHECK.due("the 509th: set(0, 10)", x.set(0, 10), 2 + 505 % 35);
        CHECK.due("the 510th: bought(0)", x.bought(0), 3);
        CHECK.due("the 511th: count(8)", x.count(8), 1);
        CHECK.due("the 512th: digest()", x.digest(), first);
    }

    private static void promise2EachByteIsTaken() {
        for (int b = 0; b <= 255; b++) {
            ReadFromRight x = new ReadFromRight();
            CHECK.due("type(" + b + ")", x.type(b), 1);
            CHECK.due("type(" + b + ") again", x.type(b), 2);
            CHECK.due("count(1)", x.count(1), 2);
        }
    }

    private static void promise2FiftyBytesAndNotOneMore() {
        ReadFromRight x = new ReadFromRight();
        for (int many = 1; many <= 50; many++) {
            CHECK.due("byte " + many, x.type(many % 2 == 0 ? 'w' : '1'), many);
        }
        CHECK.due("byte 51", x.type('w'), ReadFromRight.FULL);
        CHECK.due("byte 51 that is none", x.type(256), ReadFromRight.BAD);
        CHECK.due("byte 51 that is none", x.type(-1), ReadFromRight.BAD);
        CHECK.due("byte 51 once more", x.type(0), ReadFromRight.FULL);
        CHECK.due("fifty they are", x.count(1), 50);
        CHECK.due("wipe() of fifty", x.wipe(), 50);
    }

    private static void promise2FiftyAgainBehindWipe() {
        ReadFromRight x = Town.full();
        CHECK.due("type('7'), full", x.type('7'), ReadFromRight.FULL);
        x.wipe();
        CHECK.due("type('7'), wiped", x.type('7'), 1);
        CHECK.due("type('t')", x.type('t'), 2);
        CHECK.due("good(0, 0)", x.good(0, 0), 7);
        for (int many = 3; many <= 50; many++) {
            CHECK.due("byte " + many, x.type(';'), many);
        }
        CHECK.due("byte 51", x.type(';'), ReadFromRight.FULL);
    }

    private static void promise3WipeTellsBytesNotGoods() {
        CHECK.due("wipe() of nothing", new ReadFromRight().wipe(), 0);
        CHECK.due("wipe() of one byte", Check.withGoods("x").wipe(), 1);
        CHECK.due("wipe() of the longest that is well", Check.withGoods(EIGHT).wipe(), 39);
        CHECK.due("wipe() of one with a FAULT", Check.withGoods("12w;;").wipe(), 5);
        ReadFromRight x = Check.withGoods("12w");
        x.wipe();
        CHECK.due("wipe() again", x.wipe(), 0);
    }

    private static void promise3WipeLeavesAllElse() {
        ReadFromRight x = Town.busy();
        x.wipe();
        int[] due = {0, 0, 0, 0, 7, 1, 42, 3, 5};
        for (int what = 0; what <= 8; what++) {
            CHECK.due("wiped: count(" + what + ")", x.count(what), due[what]);
        }
        for (int good = 0; good < 8; good++) {
            CHECK.due("wiped: partner(" + good + ", 0)", x.partner(good, 0), (good + 1) % 4);
        }
        CHECK.due("wiped: get(1, 1, 0)", x.get(1, 1, 0), 300);
        int[] items = {3, 2, 4, -11};
        for (int s = 0; s <= 3; s++) {
            CHECK.due("wiped: lose(" + s + ")", x.lose(s), items[s]);
        }
    }

    private static void promise3NothingOfTheOldTextIsLeft() {
        ReadFromRight x = Check.withGoods("12w;345t");
        CHECK.due("ahead: bought(0)", x.bought(0), 21);
        CHECK.due("ahead: bill(3, 1)", x.bill(3, 1), 753);
        x.wipe();
        for (int what = 0; what <= 3; what++) {
            CHECK.due("wiped: bought(" + what + ")", x.bought(what), 0);
        }
        CHECK.due("wiped: count(3)", x.count(3), 0);
        x.type('9');
        CHECK.due("the old text does not go on behind the new one: fault()", x.fault(), 1);
        x.type('t');
        CHECK.due("nor behind its letter: fault()", x.fault(), ReadFromRight.NONE);
        CHECK.due("count(0)", x.count(0), 1);
        CHECK.due("the old one was wanted, the new one is not: count(2)", x.count(2), 0);
        CHECK.due("count(3)", x.count(3), 9);
        CHECK.due("bought(0)", x.bought(0), 0);
        CHECK.due("bought(3)", x.bought(3), 9);
        CHECK.due("bill(1, 1)", x.bill(1, 1), 9);
        CHECK.due("bill(3, 1)", x.bill(3, 1), ReadFromRight.BAD);
    }

    private static void promise4EmptyTextIsWell() {
        fault("", ReadFromRight.NONE);
        ReadFromRight x = Check.withGoods("?");
        CHECK.due("fault() of '?'", x.fault(), 0);
        x.wipe();
        CHECK.due("fault(), wiped", x.fault(), ReadFromRight.NONE);
    }

    private static void promise4PricesFromOneTo999() {
        for (int price = 1; price <= 999; price++) {
            for (String figures : new String[] {"" + price, String.format("%03d", price)}) {
                ReadFromRight x = Check.withGoods(figures + (price % 2 == 0 ? "w" : "t"));
                CHECK.due("'" + figures + "': fault()", x.fault(), ReadFromRight.NONE);
                CHECK.due("'" + figures + "': good(0, 0)", x.good(0, 0), price);
                CHECK.due("'" + figures + "': good(0, 1)", x.good(0, 1), price % 2 == 0 ? 1 : 0);
            }
        }
        fault("01w", ReadFromRight.NONE);
        fault("1000w", 3);
        fault("0001w", 0);
    }

    private static void promise4PriceOfNought() {
        for (String nought : new String[] {"0", "00", "000", "0w", "00w", "000w", "0t", "000t", "0;", "000x"}) {
            fault(nought, 0);
            fault("5w;" + nought, 3);
            fault("999w;999t;" + nought, 10);
        }
        fault("01t;10w;001w;100t", ReadFromRight.NONE);
        fault("0w;x", 0);
        fault("x;0w", 0);
        fault("1w;0w;x", 3);
        fault("1x;0w", 1);
    }

    private static void promise4NotEnded() {
        String[] begun = {"1", "12", "123", "5w;", "5w;1", "5w;12", "5w;123", "5w;6t;", "999w;999t;999w;999t;9"};
        for (String text : begun) {
            fault(text, text.length());
        }
        ReadFromRight x = new ReadFromRight();
        for (int i = 0; i < EIGHT.length(); i++) {
            x.type(EIGHT.charAt(i));
            CHECK.due("fault() behind " + (i + 1) + " bytes of eight GOODS", x.fault(), i % 5 == 3 ? -1 : i + 1);
        }
    }

    /** Behind each beginning each byte that there is. */
    private static void promise4FirstByteThatCannotGoOn() {
        String[] begun = {"", "1", "12", "123", "1w", "123t", "1w;", "1w;7", "1w;789", "1w;7t"};
        String figures = "0123456789";
        String[] goOn = {figures, figures + "wt", figures + "wt", "wt", ";", ";", figures, figures + "wt", "wt", ";"};
        for (int i = 0; i < begun.length; i++) {
            for (char b = 0; b <= 255; b++) {
                ReadFromRight x = Check.withGoods(begun[i]);
                x.type(b);
                boolean well = goOn[i].indexOf(b) >= 0;
                int end = b == 'w' || b == 't' ? ReadFromRight.NONE : begun[i].length() + 1;
                boolean nought = well && b == '0' && (begun[i].isEmpty() || begun[i].endsWith(";"));
                CHECK.due("fault() of '" + begun[i] + "' and byte " + (int) b, x.fault(),
                    !well || nought ? begun[i].length() : end);
                Check.typeAll(x, ";5w");
                if (!well) {
                    CHECK.due("the first such: '" + begun[i] + "' and byte " + (int) b, x.fault(), begun[i].length());
                }
            }
        }
        fault("1w;;2w", 3);
        fault(";1w", 0);
        fault("1w2t", 2);
        fault("1wt", 2);
        fault("1 w", 1);
    }

    private static void promise4EightGoodsAtMost() {
        String seven = "1w;2t;3w;4t;5w;6t;7w";
        fault(seven, ReadFromRight.NONE);
        fault(seven + ";8t", ReadFromRight.NONE);
        CHECK.due("eight: count(0)", Check.withGoods(seven + ";8t").count(0), 8);
        for (String ninth : new String[] {"", "9", "9w", "999t", "0", "0w", "x", ";", "9w;9w"}) {
            fault(seven + ";8t;" + ninth, 24);
            fault(EIGHT + ";" + ninth, 40);
            CHECK.due("with a ninth there are none", Check.withGoods(EIGHT + ";" + ninth).count(0), 0);
        }
        fault(EIGHT, ReadFromRight.NONE);
        fault(EIGHT + "w", 39);
        fault(EIGHT + "9", 39);
        fault("0w;2t;3w;4t;5w;6t;7w;8t;9w", 0);
        fault("1w;2t;3w;4t;5w;6t;7w;0t;9w", 21);
    }

    private static void promise4WithAFaultThereAreNone() {
        for (String text : new String[] {"12w;9t;", "12w;9tx", "12w;9t;0w", "12w;9t;5", EIGHT + ";1w"}) {
            ReadFromRight x = Check.withGoods(text);
            String of = "'" + text + "': ";
            for (int what : new int[] {0, 2, 3}) {
                CHECK.due(of + "count(" + what + ")", x.count(what), 0);
            }
            CHECK.due(of + "count(1)", x.count(1), text.length());
            for (int what = 0; what <= 3; what++) {
                CHECK.due(of + "bought(" + what + ")", x.bought(what), 0);
            }
            CHECK.due(of + "good(0, 0)", x.good(0, 0), ReadFromRight.BAD);
            CHECK.due(of + "good(0, 2)", x.good(0, 2), ReadFromRight.BAD);
            CHECK.due(of + "bill(1, 0)", x.bill(1, 0), ReadFromRight.BAD);
            CHECK.due(of + "proof(8, 0)", x.proof(8, 0), -100003);
            CHECK.due(of + "raised(0, 999)", x.raised(0, 999), ReadFromRight.BAD);
            CHECK.due(of + "share(0, 0)", x.share(0, 0), 0);
            CHECK.due(of + "share(0, 1)", x.share(0, 1), 1);
            Check.fill(x, 0, 0, -1);
            CHECK.due(of + "smudged(0, 0)", x.smudged(0, 0), 0);
            CHECK.due(of + "smudged(0, 1)", x.smudged(0, 1), ReadFromRight.NONE);
        }
    }

    private static void promise5EachOfEight() {
        String[] pieces = {"1w", "999t", "12t", "100w", "007w", "50t", "999w", "1t"};
        int[] prices = {1, 999, 12, 100, 7, 50, 999, 1};
        for (int many = 0; many <= 8; many++) {
            ReadFromRight x = Check.withGoods(String.join(";", java.util.Arrays.copyOf(pieces, many)));
            x.partner(many % 8, 2);
            for (int good = 0; good < many; good++) {
                String of = "of " + many + ": good(" + good;
                CHECK.due(of + ", 0)", x.good(good, 0), prices[good]);
                CHECK.due(of + ", 1)", x.good(good, 1), pieces[good].endsWith("w") ? 1 : 0);
                CHECK.due(of + ", 2)", x.good(good, 2), good == many % 8 ? 2 : 0);
            }
            for (int what = 0; what <= 2; what++) {
                CHECK.due("of " + many + ": one more", x.good(many, what), ReadFromRight.BAD);
            }
        }
    }

    private static void promise6EachValueOfTheLaw() {
        int[] least = {2, 0, 0, 1};
        int[] most = {36, 1, 99, 4};
        int[] first = {10, 0, 0, 1};
        for (int what = 0; what <= 3; what++) {
            ReadFromRight x = new ReadFromRight();
            int was = first[what];
            for (int v = least[what]; v <= most[what]; v++) {
                CHECK.due("set(" + what + ", " + v + ")", x.set(what, v), was);
                was = v;
                for (int other = 0; other <= 3; other++) {
                    CHECK.due("behind it: count(" + (4 + other) + ")", x.count(4 + other),
                        other == what ? v : first[other]);
                }
            }
            CHECK.due("set(" + what + ") below", x.set(what, least[what] - 1), ReadFromRight.BAD);
            CHECK.due("set(" + what + ") above", x.set(what, most[what] + 1), ReadFromRight.BAD);
            CHECK.due("set(" + what + ") to the same", x.set(what, was), was);
        }
    }

    private static void promise7EachPartnerOfEach() {
        ReadFromRight x = Check.withGoods("5w;6t");
        for (int good = 0; good <= 7; good++) {
            int was = 0;
            for (int v : new int[] {3, 2, 1, 0, 0, 3}) {
                CHECK.due("partner(" + good + ", " + v + ")", x.partner(good, v), was);
                was = v;
            }
            CHECK.due("partner(" + good + ", 4)", x.partner(good, 4), ReadFromRight.BAD);
            CHECK.due("partner(" + good + ", -1)", x.partner(good, -1), ReadFromRight.BAD);
            CHECK.due("good(" + good + ", 2)", x.good(good, 2), good < 2 ? 3 : ReadFromRight.BAD);
        }
        Check.typeAll(x, ";7t");
        CHECK.due("it was told ahead of being there: good(2, 2)", x.good(2, 2), 3);
    }

    private static void partners(String of, ReadFromRight x, int... due) {
        for (int good = 0; good < 8; good++) {
            CHECK.due(of + ": partner(" + good + ", 0)", x.partner(good, 0), due[good]);
        }
    }

    private static void promise8ItemsThatMayBe() {
        for (int form = 0; form <= 2; form++) {
            ReadFromRight x = new ReadFromRight();
            Check.fill(x, form, form, 3, 0, 1, 2);
            x.partner(1, 3);
            x.partner(4, 3);
            CHECK.due("form " + form + ": read", x.read(form), 4);
            partners("form " + form, x, 3, 0, 1, 2, 3, 0, 0, 0);
        }
        ReadFromRight x = new ReadFromRight();
        x.partner(0, 2);
        x.sheet(3, 1, 0);
        CHECK.due("read(3) of an empty one", x.read(3), 0);
        partners("empty", x, 2, 0, 0, 0, 0, 0, 0, 0);
    }

    private static void promise8EightAtMost() {
        int[] items = {1, 2, 3, 1, 2, 3, 1, 2, 3};
        for (int many = 7; many <= 9; many++) {
            ReadFromRight x = new ReadFromRight();
            Check.fill(x, 0, 2, java.util.Arrays.copyOf(items, many));
            CHECK.due("read(0) of " + many, x.read(0), Math.min(many, 8));
            partners("read of " + many, x, 1, 2, 3, 1, 2, 3, 1, many == 7 ? 0 : 2);
        }
        ReadFromRight y = Town.busy();
        y.sheet(0, 0, 60);
        CHECK.due("read(0) of sixty", y.read(0), 8);
        partners("read of sixty", y, 0, 0, 0, 0, 0, 0, 0, 0);
        ReadFromRight z = new ReadFromRight();
        Check.fill(z, 0, 2, 1, 1, 1, 1, 1, 1, 1, 1, 4);
        CHECK.due("a ninth that may not be is not come to", z.read(0), 8);
    }

    private static void promise8StopsAtTheFirstThatMayNotBe() {
        for (int not : new int[] {4, -1, 5, 127, -128}) {
            for (int at = 0; at < 8; at++) {
                ReadFromRight x = new ReadFromRight();
                int[] items = {2, 2, 2, 2, 2, 2, 2, 2};
                items[at] = not;
                Check.fill(x, 1, 0, items);
                CHECK.due("read(1) with " + not + " at " + at, x.read(1), at);
                for (int good = 0; good < 8; good++) {
                    CHECK.due("behind it: partner(" + good + ", 0)", x.partner(good, 0), good < at ? 2 : 0);
                }
                CHECK.due("that is no FINDING", x.count(8), 0);
            }
        }
        ReadFromRight y = new ReadFromRight();
        Check.fill(y, 0, 2, 256 + 1, 1);
        CHECK.due("an int of 257 is not 1", y.read(0), 0);
    }
}
