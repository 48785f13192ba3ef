/** Promises 1 to 8: a new object, type, wipe, fault, good, set, partner, read. */
public final class GoodsAndLawTest {
    private static final Check CHECK = new Check();

    public static void main(String[] args) {
        promise1NewObject();
        promise2Type();
        promise3Wipe();
        promise4Fault();
        promise4FaultLeavesNoGoods();
        promise5Good();
        promise6Set();
        promise7Partner();
        promise8Read();
        CHECK.end();
    }

    private static void promise1NewObject() {
        ReadFromRight x = new ReadFromRight();
        int[] due = {0, 0, 0, 0, 10, 0, 0, 1, 0};
        for (int what = 0; what < due.length; what++) {
            CHECK.due("new: count(" + what + ")", x.count(what), due[what]);
        }
        CHECK.due("new: fault()", x.fault(), ReadFromRight.NONE);
        for (int s = 0; s < 4; s++) {
            CHECK.due("new: lose(" + s + ")", x.lose(s), -11);
        }
        for (int good = 0; good < 8; good++) {
            CHECK.due("new: partner(" + good + ", 0)", x.partner(good, 0), 0);
        }
        ReadFromRight other = new ReadFromRight();
        x.type('5');
        x.sheet(0, 0, 3);
        CHECK.due("objects share nothing: count(1)", other.count(1), 0);
        CHECK.due("objects share nothing: lose(0)", other.lose(0), -11);
    }

    private static void promise2Type() {
        ReadFromRight x = new ReadFromRight();
        CHECK.due("type(-1)", x.type(-1), ReadFromRight.BAD);
        CHECK.due("type(256)", x.type(256), ReadFromRight.BAD);
        CHECK.due("type(0)", x.type(0), 1);
        CHECK.due("type(255)", x.type(255), 2);
        for (int have = 2; have < 50; have++) {
            CHECK.due("type('1') behind " + have, x.type('1'), have + 1);
        }
        CHECK.due("type('1') behind 50", x.type('1'), ReadFromRight.FULL);
        CHECK.due("type(256) behind 50: BAD comes ahead of FULL", x.type(256), ReadFromRight.BAD);
        CHECK.due("type(-1) behind 50", x.type(-1), ReadFromRight.BAD);
        CHECK.due("a refusal changes nothing", x.count(1), 50);
    }

    private static void promise3Wipe() {
        ReadFromRight x = new ReadFromRight();
        CHECK.due("wipe() of an empty text", x.wipe(), 0);
        Check.typeAll(x, "12w;9t");
        x.partner(1, 2);
        CHECK.due("wipe()", x.wipe(), 6);
        CHECK.due("wiped: count(1)", x.count(1), 0);
        CHECK.due("wiped: count(0)", x.count(0), 0);
        CHECK.due("wiped: fault()", x.fault(), ReadFromRight.NONE);
        CHECK.due("wiped: good(0, 0)", x.good(0, 0), ReadFromRight.BAD);
        Check.typeAll(x, "7t;8w");
        CHECK.due("typed anew: good(0, 0)", x.good(0, 0), 7);
        CHECK.due("typed anew: good(0, 1)", x.good(0, 1), 0);
        CHECK.due("PARTNERS are no part of the text: good(1, 2)", x.good(1, 2), 2);
        CHECK.due("typed anew: bill(3, 0)", x.bill(3, 0), 15);
    }

    private static void promise4Fault() {
        String eight = "1w;2t;3w;4t;5w;6t;7w;8t";
        String[] texts = {"", "1w", "999t", "001w", "010t;1w", eight,
            "w", ";", "x", "1", "12", "123", "1234", "1x", "12;", "1W", "1w;", "1w;;", "1ww", "1w1", "1w ", "1w;t",
            "0", "00", "000", "0000", "0w", "000t", "00x", "0;", "5w;0", "5w;00t", "5w;x0w",
            eight + ";", eight + ";9", eight + ";9w", eight + ";0", eight + ";x", eight + "x", " 1w", "1 w", "-1w"};
        int[] due = {-1, -1, -1, -1, -1, -1,
            0, 0, 0, 1, 2, 3, 3, 1, 2, 1, 3, 3, 2, 2, 2, 3,
            0, 0, 0, 0, 0, 0, 0, 0, 3, 3, 3,
            24, 24, 24, 24, 24, 23, 0, 1, 0};
        CHECK.due("as many faults as texts", due.length, texts.length);
        for (int i = 0; i < texts.length; i++) {
            CHECK.due("fault() of '" + texts[i] + "'", Check.withGoods(texts[i]).fault(), due[i]);
        }
        ReadFromRight x = Check.withGoods("1w");
        x.type(0);
        CHECK.due("fault() with byte 0", x.fault(), 2);
        CHECK.due("fault() with byte 255", Check.withGoods("1" + (char) 255).fault(), 1);
    }

    private static void promise4FaultLeavesNoGoods() {
        ReadFromRight x = Check.withGoods("12w;9t;");
        CHECK.due("fault: count(0)", x.count(0), 0);
        CHECK.due("fault: count(1)", x.count(1), 7);
        CHECK.due("fault: count(2)", x.count(2), 0);
        CHECK.due("fault: count(3)", x.count(3), 0);
        CHECK.due("fault: good(0, 0)", x.good(0, 0), ReadFromRight.BAD);
        CHECK.due("fault: bill(1, 0)", x.bill(1, 0), ReadFromRight.BAD);
        CHECK.due("fault: bought(0)", x.bought(0), 0);
        CHECK.due("fault: proof(8, 0)", x.proof(8, 0), -100003);
        CHECK.due("fault: share(0, 0)", x.share(0, 0), 0);
        Check.typeAll(x, "1w");
        CHECK.due("mended: count(0)", x.count(0), 3);
        CHECK.due("mended: count(2)", x.count(2), 2);
        CHECK.due("mended: count(3)", x.count(3), 22);
    }

    private static void promise5Good() {
        ReadFromRight x = Check.withGoods("012w;9t;999w");
        x.partner(1, 3);
        int[][] due = {{12, 1, 0}, {9, 0, 3}, {999, 1, 0}};
        for (int good = 0; good < 3; good++) {
            for (int what = 0; what < 3; what++) {
                CHECK.due("good(" + good + ", " + what + ")", x.good(good, what), due[good][what]);
            }
        }
        CHECK.due("good(3, 0)", x.good(3, 0), ReadFromRight.BAD);
        CHECK.due("good(3, 2)", x.good(3, 2), ReadFromRight.BAD);
        CHECK.due("good(-1, 0)", x.good(-1, 0), ReadFromRight.BAD);
        CHECK.due("good(0, -1)", x.good(0, -1), ReadFromRight.BAD);
        CHECK.due("good(0, 3)", x.good(0, 3), ReadFromRight.BAD);
        CHECK.due("good(least, 0)", x.good(Integer.MIN_VALUE, 0), ReadFromRight.BAD);
        CHECK.due("good(most, 0)", x.good(Integer.MAX_VALUE, 0), ReadFromRight.BAD);
    }

    private static void promise6Set() {
        int[] first = {10, 0, 0, 1};
        int[] least = {2, 0, 0, 1};
        int[] most = {36, 1, 99, 4};
        ReadFromRight x = new ReadFromRight();
        for (int what = 0; what < 4; what++) {
            CHECK.due("set(" + what + ", least - 1)", x.set(what, least[what] - 1), ReadFromRight.BAD);
            CHECK.due("set(" + what + ", most + 1)", x.set(what, most[what] + 1), ReadFromRight.BAD);
            CHECK.due("set(" + what + ", most)", x.set(what, most[what]), first[what]);
            CHECK.due("count(" + (4 + what) + ")", x.count(4 + what), most[what]);
            CHECK.due("set(" + what + ", least)", x.set(what, least[what]), most[what]);
            CHECK.due("set(" + what + ", least) again", x.set(what, least[what]), least[what]);
            CHECK.due("count(" + (4 + what) + ")", x.count(4 + what), least[what]);
        }
        CHECK.due("set(4, 1)", x.set(4, 1), ReadFromRight.BAD);
        CHECK.due("set(-1, 1)", x.set(-1, 1), ReadFromRight.BAD);
        CHECK.due("set(most, 1)", x.set(Integer.MAX_VALUE, 1), ReadFromRight.BAD);
        x.wipe();
        CHECK.due("the law is no part of the text", x.count(4), 2);
    }

    private static void promise7Partner() {
        ReadFromRight x = new ReadFromRight();
        CHECK.due("partner(7, 3), though it is not there", x.partner(7, 3), 0);
        CHECK.due("partner(7, 1)", x.partner(7, 1), 3);
        CHECK.due("partner(8, 1)", x.partner(8, 1), ReadFromRight.BAD);
        CHECK.due("partner(-1, 1)", x.partner(-1, 1), ReadFromRight.BAD);
        CHECK.due("partner(7, 4)", x.partner(7, 4), ReadFromRight.BAD);
        CHECK.due("partner(7, -1)", x.partner(7, -1), ReadFromRight.BAD);
        CHECK.due("a refusal changes nothing", x.partner(7, 0), 1);
        Check.typeAll(x, "5w");
        CHECK.due("partner(0, 2)", x.partner(0, 2), 0);
        CHECK.due("good(0, 2)", x.good(0, 2), 2);
    }

    private static void promise8Read() {
        ReadFromRight x = new ReadFromRight();
        CHECK.due("read(-1)", x.read(-1), ReadFromRight.BAD);
        CHECK.due("read(4)", x.read(4), ReadFromRight.BAD);
        CHECK.due("a BAD one is no FINDING", x.count(8), 0);
        CHECK.due("read(3) of a LOST one", x.read(3), -11);
        CHECK.due("count(8)", x.count(8), 1);
        Check.fill(x, 0, 0, 1, 2, 3, 0, 1, 2, 3, 1, 2, 2);
        CHECK.due("read(0): eight at most", x.read(0), 8);
        int[] due = {1, 2, 3, 0, 1, 2, 3, 1};
        for (int good = 0; good < 8; good++) {
            CHECK.due("partner(" + good + ", 0)", x.partner(good, 0), due[good]);
        }
        Check.fill(x, 1, 1, 2, 2, 4, 2);
        CHECK.due("read(1): up to a 4", x.read(1), 2);
        CHECK.due("taken", x.partner(1, 0), 2);
        CHECK.due("not taken", x.partner(2, 0), 0);
        CHECK.due("not taken behind it", x.partner(3, 0), 0);
        Check.fill(x, 2, 2, -1, 2);
        CHECK.due("read(2): up to a -1", x.read(2), 0);
        x.sheet(3, 2, 0);
        CHECK.due("read(3) of an empty one", x.read(3), 0);
    }
}
