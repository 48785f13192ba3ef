/** Promises 9 to 14: paid, bill, bought, added, proof, raised. */
public final class PaidTest {
    private static final Check CHECK = new Check();

    public static void main(String[] args) {
        promise9Paid();
        promise9PaidToBases();
        promise10Bill();
        promise11Bought();
        promise11BoughtTies();
        promise11BoughtFees();
        promise11BoughtWithoutWanted();
        promise12Added();
        promise13Proof();
        promise14Raised();
        promise14RaisedNone();
        CHECK.end();
    }

    private static void promise9Paid() {
        ReadFromRight x = new ReadFromRight();
        int[] numbers = {0, 1, 9, 10, 21, 120, 1000, 1234, 9999, 9990, 101, 1020};
        int[] fall = {0, 1, 9, 1, 12, 21, 1, 4321, 9999, 999, 101, 201};
        int[] stay = {0, 1, 9, 10, 12, 210, 1000, 4321, 9999, 9990, 101, 2010};
        for (int i = 0; i < numbers.length; i++) {
            CHECK.due("paid(" + numbers[i] + ")", x.paid(numbers[i]), fall[i]);
        }
        x.set(1, 1);
        for (int i = 0; i < numbers.length; i++) {
            CHECK.due("noughts stay: paid(" + numbers[i] + ")", x.paid(numbers[i]), stay[i]);
        }
        CHECK.due("paid(-1)", x.paid(-1), ReadFromRight.BAD);
        CHECK.due("paid(10000)", x.paid(10000), ReadFromRight.BAD);
        CHECK.due("paid(least)", x.paid(Integer.MIN_VALUE), ReadFromRight.BAD);
    }

    private static void promise9PaidToBases() {
        ReadFromRight x = new ReadFromRight();
        x.set(0, 2);
        CHECK.due("to 2: paid(6)", x.paid(6), 3);
        CHECK.due("to 2: paid(11)", x.paid(11), 13);
        CHECK.due("to 2: paid(8192)", x.paid(8192), 1);
        x.set(1, 1);
        CHECK.due("to 2, noughts stay: paid(20)", x.paid(20), 20);
        CHECK.due("to 2, noughts stay: paid(22)", x.paid(22), 26);
        CHECK.due("to 2, noughts stay: paid(8192)", x.paid(8192), 8192);
        x.set(0, 21);
        CHECK.due("to 21: paid(9999), figures 1 1 14 3", x.paid(9999), 3 * 9261 + 14 * 441 + 21 + 1);
        x.set(0, 36);
        CHECK.due("to 36: paid(1295)", x.paid(1295), 1295);
        CHECK.due("to 36: paid(1296)", x.paid(1296), 1296);
        CHECK.due("to 36: paid(71)", x.paid(71), 35 * 36 + 1);
    }

    private static void promise10Bill() {
        ReadFromRight x = Check.withGoods("12w;9w;109t");
        int[] sums = {12, 9, 21, 109, 121, 118, 130};
        int[] paid = {21, 9, 12, 901, 121, 811, 31};
        for (int bits = 1; bits <= 7; bits++) {
            CHECK.due("bill(" + bits + ", 0)", x.bill(bits, 0), sums[bits - 1]);
            CHECK.due("bill(" + bits + ", 1)", x.bill(bits, 1), paid[bits - 1]);
        }
        CHECK.due("bill(0, 0)", x.bill(0, 0), ReadFromRight.BAD);
        CHECK.due("bill(8, 0)", x.bill(8, 0), ReadFromRight.BAD);
        CHECK.due("bill(9, 1)", x.bill(9, 1), ReadFromRight.BAD);
        CHECK.due("bill(-1, 0)", x.bill(-1, 0), ReadFromRight.BAD);
        CHECK.due("bill(least, 0)", x.bill(Integer.MIN_VALUE, 0), ReadFromRight.BAD);
        CHECK.due("bill(1, 2)", x.bill(1, 2), ReadFromRight.BAD);
        CHECK.due("bill(1, -1)", x.bill(1, -1), ReadFromRight.BAD);
        x.set(1, 1);
        CHECK.due("after set: bill(7, 1)", x.bill(7, 1), 310);
        Check.typeAll(x, ";1t");
        CHECK.due("after more goods: bill(15, 1)", x.bill(15, 1), 131);
        x.wipe();
        CHECK.due("wiped: bill(1, 0)", x.bill(1, 0), ReadFromRight.BAD);
    }

    private static void bought(String of, ReadFromRight x, int... due) {
        for (int what = 0; what < 4; what++) {
            CHECK.due(of + ": bought(" + what + ")", x.bought(what), due[what]);
        }
    }

    private static void promise11Bought() {
        ReadFromRight x = Check.withGoods("12w;9w;9t");
        bought("one bill", x, 3, 1, 7, 12);
        x.set(3, 2);
        bought("two bills", x, 3, 1, 7, 102);
        x.set(1, 1);
        bought("two bills, noughts stay", x, 12, 1, 3, 102);
        CHECK.due("bought(-1)", x.bought(-1), ReadFromRight.BAD);
        CHECK.due("bought(4)", x.bought(4), ReadFromRight.BAD);
        ReadFromRight y = Check.withGoods("100w;100w;100w;100w;100w");
        y.set(3, 4);
        bought("five alike: 500 is 5, and so are all parts together", y, 5, 1, 31, 5);
    }

    private static void promise11BoughtTies() {
        ReadFromRight x = Check.withGoods("1w;2w;3w");
        x.set(3, 4);
        bought("of like ones the fewest bills", x, 6, 1, 7, 6);
        ReadFromRight y = Check.withGoods("6w;5t;4t;4t");
        y.set(3, 1);
        bought("of like ones the least bits", y, 1, 1, 5, 91);
        ReadFromRight z = Check.withGoods("5t;4t;6w;4t");
        bought("of like ones the least bits again", z, 1, 1, 6, 91);
    }

    private static void promise11BoughtFees() {
        ReadFromRight x = Check.withGoods("10w;11w;100w");
        x.set(3, 3);
        bought("no fee: 21 and 100 are 12 and 1", x, 13, 2, 7, 121);
        x.set(2, 99);
        bought("a fee for each bill: 111 and 10 are the most", x, 13 + 2 * 99, 2, 7, 112 + 2 * 99);
        ReadFromRight y = Check.withGoods("5w;6w;20t");
        y.set(3, 2);
        y.set(2, 1);
        bought("11 on one bill is the least; 5 and 26 (62) on two the most", y, 11 + 1, 1, 3, 67 + 2);
    }

    private static void promise11BoughtWithoutWanted() {
        ReadFromRight x = Check.withGoods("7t;9t");
        x.set(2, 5);
        x.set(3, 2);
        bought("nothing has to be bought", x, 0, 0, 0, 61 + 5);
        bought("no goods", new ReadFromRight(), 0, 0, 0, 0);
        bought("a fault", Check.withGoods("7w;"), 0, 0, 0, 0);
        ReadFromRight y = Check.withGoods("12w");
        bought("as long as it is there", y, 21, 1, 1, 21);
        y.wipe();
        bought("wiped", y, 0, 0, 0, 0);
    }

    private static void promise12Added() {
        ReadFromRight x = new ReadFromRight();
        CHECK.due("added(0)", x.added(0), 0);
        CHECK.due("added(1): 1 is the least", x.added(1), 0);
        CHECK.due("added(2): up to 10", x.added(2), 8);
        CHECK.due("added(11): up to 100", x.added(11), 89);
        CHECK.due("added(100): stays", x.added(100), 0);
        CHECK.due("added(101): up to 200", x.added(101), 99);
        CHECK.due("added(9900): 10000 is 100 more", x.added(9900), 0);
        CHECK.due("added(9901): 10000 is 99 more", x.added(9901), 99);
        CHECK.due("added(9999)", x.added(9999), 1);
        CHECK.due("added(-1)", x.added(-1), ReadFromRight.BAD);
        CHECK.due("added(10000)", x.added(10000), ReadFromRight.BAD);
        x.set(1, 1);
        CHECK.due("noughts stay: added(120)", x.added(120), 81);
        CHECK.due("noughts stay: added(19): 21 is 12", x.added(19), 2);
    }

    private static void promise13Proof() {
        ReadFromRight x = Check.withGoods("12w;9w;20t");
        int[] most = {18, 18, 27};
        int[] bits = {4, 4, 7};
        // 12: 21, 9: 9, 20: 2, 21: 12, 32: 23, 29: 92, 41: 14.
        for (int many = 1; many <= 3; many++) {
            CHECK.due("proof(" + many + ", 0)", x.proof(many, 0), most[many - 1]);
            CHECK.due("proof(" + many + ", 1)", x.proof(many, 1), bits[many - 1]);
        }
        CHECK.due("proof(8, 0)", x.proof(8, 0), 27);
        CHECK.due("below 0: proof(8, 0)", Check.withGoods("12w").proof(8, 0), -9);
        CHECK.due("below 0: proof(8, 1)", Check.withGoods("12w").proof(8, 1), 1);
        CHECK.due("of like ones the least bits", Check.withGoods("5w;1t;20t;20t").proof(1, 1), 4);
        CHECK.due("all alike: the least bits", Check.withGoods("1w;1t").proof(8, 1), 1);
        CHECK.due("proof(0, 0)", x.proof(0, 0), -100002);
        CHECK.due("proof(9, 0)", x.proof(9, 0), -100002);
        CHECK.due("proof(1, 2)", x.proof(1, 2), -100002);
        CHECK.due("proof(1, -1)", x.proof(1, -1), -100002);
        ReadFromRight none = new ReadFromRight();
        CHECK.due("no goods: proof(1, 1)", none.proof(1, 1), -100003);
        CHECK.due("no goods: BAD comes ahead of NOT", none.proof(1, 2), -100002);
        CHECK.due("no goods: BAD comes ahead of NOT", none.proof(9, 0), -100002);
    }

    private static void promise14Raised() {
        ReadFromRight x = Check.withGoods("20w");
        CHECK.due("raised(0, 18): it is 18 less", x.raised(0, 18), 0);
        CHECK.due("raised(0, 17): 21 is 9 less", x.raised(0, 17), 1);
        CHECK.due("raised(0, 8): 22", x.raised(0, 8), 2);
        CHECK.due("raised(0, 0): 22", x.raised(0, 0), 2);
        CHECK.due("raised(1, 0)", x.raised(1, 0), ReadFromRight.BAD);
        CHECK.due("raised(-1, 0)", x.raised(-1, 0), ReadFromRight.BAD);
        CHECK.due("raised(0, -1)", x.raised(0, -1), ReadFromRight.BAD);
        CHECK.due("raised(0, 1000)", x.raised(0, 1000), ReadFromRight.BAD);
        CHECK.due("raised(0, 999)", x.raised(0, 999), 0);
        ReadFromRight y = Check.withGoods("12w;9t");
        CHECK.due("raised(0, 0): 13 and 22", y.raised(0, 0), 1);
        CHECK.due("raised(1, 0): 11 and 23", y.raised(1, 0), 2);
        CHECK.due("a price is not changed by it", y.good(0, 0), 12);
        CHECK.due("nor a bill", y.bill(3, 0), 21);
        ReadFromRight z = Check.withGoods("990w");
        CHECK.due("raised(0, 0): 999 at the end of what PRICES are", z.raised(0, 0), 9);
    }

    private static void promise14RaisedNone() {
        ReadFromRight x = Check.withGoods("20w;3t");
        CHECK.due("raised(1, 0): 20 alone is left", x.raised(1, 0), ReadFromRight.NONE);
        CHECK.due("raised(0, 0): 22 and 25", x.raised(0, 0), 2);
        ReadFromRight y = Check.withGoods("900w");
        CHECK.due("raised(0, 0): up to 909", y.raised(0, 0), 9);
        y.set(0, 36);
        CHECK.due("900 to 36 is 25 0, 925 is 25 25", y.raised(0, 0), 25);
        y.set(0, 31);
        CHECK.due("900 to 31 is 29 1, 928 is 29 29", y.raised(0, 0), 28);
        // 6 to 9 at the end of one is 1 to 4 at the end of 45 more.
        CHECK.due("no raise is enough", Check.withGoods("639w;45t").raised(0, 0), ReadFromRight.NONE);
        // 9 hundreds want a 9 at the end, 2 more make it a 1: up to 999 and 1001.
        CHECK.due("99 more are enough", Check.withGoods("900w;2t").raised(0, 0), 99);
        CHECK.due("99 more are not enough", Check.withGoods("899w;2t").raised(0, 0), ReadFromRight.NONE);
        CHECK.due("a raised PRICE may be above 999", Check.withGoods("902w;1t").raised(0, 0), 99);
    }
}
