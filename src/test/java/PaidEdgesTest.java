/** Promises 9 to 14: each sentence that names an edge, for itself. What is refused there is in RefusalsTest, too. */
public final class PaidEdgesTest {
    private static final Check CHECK = new Check();
    /** An object is used for at most 512 calls; two of them are for the law. */
    private static final int CALLS = 500;

    public static void main(String[] args) {
        promise9NoughtIsPaidByNought();
        promise9NoughtsAtTheEnd();
        promise9EachNumberToEachBase();
        promise9FeesAndBillsAreNoPartOfIt();
        promise10OneGoodAtLeastAndAllAtMost();
        promise10LeastAndGreatestSum();
        promise10FeesAreNoPartOfIt();
        promise11AsManyBillsAtMost();
        promise11NoMoreBillsThanGoods();
        promise11LeastAndGreatestFee();
        promise11FewestBillsOfLikeOnes();
        promise11LeastBitsOfLikeOnes();
        promise11FewestBillsComeAheadOfLeastBits();
        promise11WithoutWantedGoods();
        promise11AllWantedGoodsAreBought();
        promise11EachIsAnswerToAFirstCall();
        promise12LeastAndGreatestNumber();
        promise12NoughtTo99More();
        promise12OfLikeOnesTheLeast();
        promise13UpToSoManyGoods();
        promise13BelowNought();
        promise13LeastBitsOfLikeOnes();
        promise13NoGoods();
        promise14LessByJustD();
        promise14LeastAndGreatestD();
        promise14NoughtTo99More();
        promise14BillsOfHoweverManyGoods();
        promise14BillsWithoutTheGood();
        CHECK.end();
    }

    private static ReadFromRight town(String text, int... law) {
        ReadFromRight x = Check.withGoods(text);
        for (int what = 0; what < law.length; what++) {
            x.set(what, law[what]);
        }
        return x;
    }

    private static void promise9NoughtIsPaidByNought() {
        for (int base = 2; base <= 36; base++) {
            for (int noughts = 0; noughts <= 1; noughts++) {
                CHECK.due("to " + base + ", noughts " + noughts + ": paid(0)", town("", base, noughts).paid(0), 0);
            }
        }
    }

    private static void promise9NoughtsAtTheEnd() {
        ReadFromRight fall = town("", 10, 0);
        ReadFromRight stay = town("", 10, 1);
        int[][] due = {{120, 21, 210}, {10, 1, 10}, {100, 1, 100}, {9000, 9, 9000}, {1200, 21, 2100}, {102, 201, 201},
            {1020, 201, 2010}, {1002, 2001, 2001}, {9, 9, 9}, {9999, 9999, 9999}, {9990, 999, 9990}};
        for (int[] one : due) {
            CHECK.due("noughts fall off: paid(" + one[0] + ")", fall.paid(one[0]), one[1]);
            CHECK.due("noughts stay: paid(" + one[0] + ")", stay.paid(one[0]), one[2]);
        }
        for (int base = 2; base <= 36; base++) {
            ReadFromRight x = town("", base, 0);
            CHECK.due("the BASE falls off to 1", x.paid(base), 1);
            CHECK.due("the greatest figure is itself", x.paid(base - 1), base - 1);
            CHECK.due("1 is itself", x.paid(1), 1);
            CHECK.due("1 1 is itself", x.paid(base + 1), base + 1);
            x.set(1, 1);
            CHECK.due("the BASE stays", x.paid(base), base);
        }
    }

    private static void promise9EachNumberToEachBase() {
        int wrong = 0;
        for (int base = 2; base <= 36; base++) {
            for (int noughts = 0; noughts <= 1; noughts++) {
                for (int start = 0; start <= 9999; start += CALLS) {
                    ReadFromRight x = town("", base, noughts);
                    for (int n = start; n < start + CALLS; n++) {
                        wrong += x.paid(n) == turned(n, base, noughts) ? 0 : 1;
                    }
                }
            }
        }
        CHECK.due("numbers that are not PAID as their figures are", wrong, 0);
    }

    private static int turned(int n, int base, int noughts) {
        int shift = 1;
        int left = n;
        while (left > 0 && left % base == 0) {
            left /= base;
            shift *= base;
        }
        int turned = 0;
        while (left > 0) {
            turned = turned * base + left % base;
            left /= base;
        }
        return noughts == 1 ? turned * shift : turned;
    }

    private static void promise9FeesAndBillsAreNoPartOfIt() {
        CHECK.due("with a FEE: paid(0)", town("12w", 10, 0, 99, 4).paid(0), 0);
        CHECK.due("with a FEE: paid(9998)", town("12w", 10, 0, 99, 4).paid(9998), 8999);
    }

    private static void promise10OneGoodAtLeastAndAllAtMost() {
        String text = "1w";
        for (int many = 1; many <= 8; many++) {
            ReadFromRight x = Check.withGoods(text);
            int all = (1 << many) - 1;
            CHECK.due("of " + many + ": bill(0, 0)", x.bill(0, 0), ReadFromRight.BAD);
            CHECK.due("of " + many + ": bill(1, 0)", x.bill(1, 0), 1);
            CHECK.due("of " + many + ": the last alone", x.bill(1 << many - 1, 0), many);
            CHECK.due("of " + many + ": all", x.bill(all, 0), many * (many + 1) / 2);
            CHECK.due("of " + many + ": one more alone", x.bill(1 << many, 0), ReadFromRight.BAD);
            CHECK.due("of " + many + ": one more with all", x.bill(all + 1 + all, 1), ReadFromRight.BAD);
            text += ";" + (many + 1) + "t";
        }
    }

    private static void promise10LeastAndGreatestSum() {
        ReadFromRight least = Check.withGoods("1t");
        CHECK.due("the least SUM", least.bill(1, 0), 1);
        CHECK.due("the least SUM is PAID", least.bill(1, 1), 1);
        ReadFromRight most = Town.eight();
        CHECK.due("the greatest SUM", most.bill(255, 0), 7992);
        CHECK.due("the greatest SUM is PAID", most.bill(255, 1), 2997);
        most.set(0, 19);
        CHECK.due("to 19 it is 1 3 2 12", most.bill(255, 1), 12 * 6859 + 2 * 361 + 3 * 19 + 1);
    }

    private static void promise10FeesAreNoPartOfIt() {
        ReadFromRight x = town("12w;9t", 10, 0, 99, 4);
        CHECK.due("with a FEE: bill(3, 0)", x.bill(3, 0), 21);
        CHECK.due("with a FEE: bill(3, 1)", x.bill(3, 1), 12);
    }

    private static void bought(String of, ReadFromRight x, int... due) {
        for (int what = 0; what < 4; what++) {
            CHECK.due(of + ": bought(" + what + ")", x.bought(what), due[what]);
        }
    }

    private static void promise11AsManyBillsAtMost() {
        // 503 is 305; 501 and 2 are 105 and 2; 480, 21 and 2 are 84, 12 and 2; 300, 90, 90 and 23 are 3, 9, 9 and 32.
        // On five bills it would be 3 + 2 + 9 + 12 + 9 = 35.
        int[] least = {305, 107, 98, 53};
        for (int bills = 1; bills <= 4; bills++) {
            ReadFromRight x = town("300w;2w;90w;21w;90w", 10, 0, 0, bills);
            CHECK.due(bills + " bills at most: bought(0)", x.bought(0), least[bills - 1]);
            CHECK.due(bills + " bills at most: bought(1)", x.bought(1), bills);
            CHECK.due(bills + " bills at most: bought(2)", x.bought(2), 31);
        }
        // On five it would be 62 + 82 + 8 + 61 + 71 = 284.
        int[] most = {59, 158, 185, 257};
        for (int bills = 1; bills <= 4; bills++) {
            ReadFromRight x = town("26w;28w;8w;16w;17w", 10, 0, 0, bills);
            CHECK.due(bills + " bills at most: bought(3)", x.bought(3), most[bills - 1]);
        }
    }

    private static void promise11NoMoreBillsThanGoods() {
        bought("one of the GOODS, four bills", town("12w", 10, 0, 5, 4), 26, 1, 1, 26);
        // 10 and 100 apart are 1 and 1, together 11.
        bought("two of the GOODS, four bills", town("10w;100w", 10, 0, 0, 4), 2, 2, 3, 11);
        // A bill has one of the GOODS at least: with a FEE of 99 as many bills as there are GOODS are the most.
        bought("three of the GOODS, four bills", town("1w;1w;1w", 10, 0, 99, 4), 102, 1, 7, 300);
        bought("as many bills as GOODS", town("1w;1w;1w;1w", 10, 0, 99, 4), 103, 1, 15, 400);
        bought("more GOODS than bills", town("1w;1w;1w;1w;1w", 10, 0, 99, 4), 104, 1, 31, 401);
    }

    private static void promise11LeastAndGreatestFee() {
        // 10 and 100: apart 1 and 1 and two FEES, together 11 and one.
        bought("no FEE", town("10w;100w", 10, 0, 0, 2), 2, 2, 3, 11);
        bought("a FEE of 8", town("10w;100w", 10, 0, 8, 2), 18, 2, 3, 19);
        bought("a FEE of 9 makes them alike: the fewest", town("10w;100w", 10, 0, 9, 2), 20, 1, 3, 20);
        bought("a FEE of 10", town("10w;100w", 10, 0, 10, 2), 21, 1, 3, 22);
        bought("a FEE of 99", town("10w;100w", 10, 0, 99, 2), 110, 1, 3, 200);
    }

    private static void promise11FewestBillsOfLikeOnes() {
        bought("all apart or together", town("1w;2w;3w", 10, 0, 0, 3), 6, 1, 7, 6);
        // 100, 10 and 200 are 4 on three bills, and 300 and 10 are 4 on two; 310 is 13 on one.
        bought("two of three", town("100w;10w;200w", 10, 0, 0, 3), 4, 2, 7, 13);
    }

    private static void promise11LeastBitsOfLikeOnes() {
        // 6 with 4 is 10, which is 1; there are two of 4.
        bought("the first of two alike", town("6w;4t;4t", 10, 0, 0, 1), 1, 1, 3, 41);
        bought("the wanted one is the last", town("4t;4t;6w", 10, 0, 0, 1), 1, 1, 5, 41);
        // 91 with 9 is 100, with 109 is 200: 1 and 2. With both 209: 902.
        bought("less is PAID, though by more bits", town("9t;19t;91w", 10, 0, 0, 1), 1, 1, 5, 911);
        bought("none is thrown in if that is alike", town("5w;5t;50t", 10, 0, 0, 1), 1, 1, 3, 55);
        // 100 is 1; with 900 it is 1000, which is 1, too.
        bought("none is thrown in if that is alike", town("100w;900t", 10, 0, 0, 1), 1, 1, 1, 1);
        bought("none is thrown in if that is alike", town("900t;100w", 10, 0, 0, 1), 1, 1, 2, 1);
    }

    private static void promise11FewestBillsComeAheadOfLeastBits() {
        // 10 and 100 apart are 2 without the 90; with it they are 200 on one bill, which is 2. The most: 190 and 10.
        bought("one bill with more bits", town("90t;10w;100w", 10, 0, 0, 2), 2, 1, 7, 92);
        bought("one bill with more bits", town("10w;100w;90t", 10, 0, 0, 2), 2, 1, 7, 92);
    }

    private static void promise11WithoutWantedGoods() {
        bought("no GOODS", town("", 10, 0, 99, 4), 0, 0, 0, 0);
        bought("one that may be thrown in", town("12t", 10, 0, 0, 1), 0, 0, 0, 21);
        bought("the FEE is for bills that there are", town("12t", 10, 0, 99, 4), 0, 0, 0, 120);
        bought("eight that may be thrown in", town("1t;1t;1t;1t;1t;1t;1t;1t", 10, 0, 99, 4), 0, 0, 0, 404);
        bought("a FAULT", town("12w;x", 10, 0, 99, 4), 0, 0, 0, 0);
        ReadFromRight x = town("10w;100w", 10, 0, 0, 4);
        bought("wanted ones, ahead", x, 2, 2, 3, 11);
        x.type(';');
        bought("none, as there is a FAULT by now", x, 0, 0, 0, 0);
        Check.typeAll(x, "90t");
        bought("there are three by now", x, 2, 1, 7, 92);
        x.wipe();
        Check.typeAll(x, "12t");
        bought("none is wanted by now", x, 0, 0, 0, 21);
    }

    private static void promise11AllWantedGoodsAreBought() {
        // 1 alone would be 1, but all eight are wanted: 36 is 63, or 10 and 20 and 6, which is 1 + 2 + 6.
        bought("all wanted, one bill", town("1w;2w;3w;4w;5w;6w;7w;8w", 10, 0, 0, 1), 63, 1, 255, 63);
        CHECK.due("all wanted, three bills: bought(0)", town("1w;2w;3w;4w;5w;6w;7w;8w", 10, 0, 0, 3).bought(0), 9);
        CHECK.due("all wanted, three bills: bought(2)", town("1w;2w;3w;4w;5w;6w;7w;8w", 10, 0, 0, 3).bought(2), 255);
        bought("the last is wanted", town("1t;1t;1t;1t;1t;1t;1t;12w", 10, 0, 0, 1), 21, 1, 128, 91);
    }

    /** None of them lives from what another has reckoned. */
    private static void promise11EachIsAnswerToAFirstCall() {
        int[] due = {3, 1, 7, 12};
        for (int what = 0; what <= 3; what++) {
            CHECK.due("first of all: bought(" + what + ")", town("12w;9w;9t", 10).bought(what), due[what]);
        }
        int[] of = {21, 1, 1, 21};
        int[] then = {27, 1, 1, 27};
        for (int what = 0; what <= 3; what++) {
            ReadFromRight x = town("12w", 10);
            CHECK.due("ahead of set: bought(" + what + ")", x.bought(what), of[what]);
            x.set(2, 6);
            CHECK.due("behind set: bought(" + what + ")", x.bought(what), then[what]);
        }
    }

    private static void promise12LeastAndGreatestNumber() {
        ReadFromRight x = new ReadFromRight();
        CHECK.due("added(0)", x.added(0), 0);
        CHECK.due("added(9999): 10000 is 1", x.added(9999), 1);
        CHECK.due("added(-1)", x.added(-1), ReadFromRight.BAD);
        CHECK.due("added(10000)", x.added(10000), ReadFromRight.BAD);
        x.set(1, 1);
        CHECK.due("noughts stay: added(0)", x.added(0), 0);
        CHECK.due("noughts stay: added(9999) stays, as 10000 is more", x.added(9999), 0);
    }

    private static void promise12NoughtTo99More() {
        ReadFromRight x = new ReadFromRight();
        CHECK.due("added(1000): it is the least", x.added(1000), 0);
        CHECK.due("added(1901): 99 up to 2000", x.added(1901), 99);
        CHECK.due("added(1900): 2000 is 100 more; 1900 is 91", x.added(1900), 0);
        CHECK.due("added(1902): 98 up to 2000", x.added(1902), 98);
        CHECK.due("added(1999): 1 up to 2000", x.added(1999), 1);
        CHECK.due("added(9901): 99 up to 10000", x.added(9901), 99);
        CHECK.due("added(9900): 10000 is 100 more", x.added(9900), 0);
    }

    private static void promise12OfLikeOnesTheLeast() {
        ReadFromRight x = new ReadFromRight();
        CHECK.due("added(1): 1, 10 and 100 are all 1", x.added(1), 0);
        CHECK.due("added(2): 10 and 100 are both 1", x.added(2), 8);
        CHECK.due("added(10): 10 and 100 are both 1", x.added(10), 0);
        x.set(0, 2);
        CHECK.due("to 2: added(3): 4, 8, 16, 32 and 64 are all 1", x.added(3), 1);
        CHECK.due("to 2: added(5): 8 is the first", x.added(5), 3);
    }

    private static void promise13UpToSoManyGoods() {
        ReadFromRight x = Check.withGoods("11w;10w;3w;10w;23w;23w;18w;2w");
        int[] most = {9, 27, 36, 54, 63, 72, 81, 99};
        int[] bits = {2, 80, 82, 53, 55, 63, 247, 255};
        for (int many = 1; many <= 8; many++) {
            CHECK.due("proof(" + many + ", 0)", x.proof(many, 0), most[many - 1]);
            CHECK.due("proof(" + many + ", 1)", x.proof(many, 1), bits[many - 1]);
            CHECK.due("it is PAID so much less", x.bill(bits[many - 1], 0) - x.bill(bits[many - 1], 1), most[many - 1]);
        }
        CHECK.due("proof(0, 0)", x.proof(0, 0), -100002);
        CHECK.due("proof(9, 0)", x.proof(9, 0), -100002);
        ReadFromRight one = Check.withGoods("20w");
        CHECK.due("more than there are: proof(8, 0)", one.proof(8, 0), 18);
        CHECK.due("more than there are: proof(8, 1)", one.proof(8, 1), 1);
    }

    private static void promise13BelowNought() {
        ReadFromRight x = Check.withGoods("19w");
        CHECK.due("19 is 91: proof(1, 0)", x.proof(1, 0), -72);
        CHECK.due("19 is 91: proof(1, 1)", x.proof(1, 1), 1);
        // 12 is 21, 13 is 31, 25 is 52: -9, -18, -27.
        ReadFromRight y = Check.withGoods("13w;12t");
        CHECK.due("the least below 0: proof(8, 0)", y.proof(8, 0), -9);
        CHECK.due("the least below 0: proof(8, 1)", y.proof(8, 1), 2);
        CHECK.due("alike: proof(8, 0)", Check.withGoods("11w").proof(8, 0), 0);
        ReadFromRight z = Check.withGoods("37w");
        z.set(0, 36);
        z.set(1, 1);
        CHECK.due("to 36, 1 1: proof(8, 0)", z.proof(8, 0), 0);
        z.wipe();
        Check.typeAll(z, "71w");
        CHECK.due("to 36, 1 35 is 35 1: proof(8, 0)", z.proof(8, 0), 71 - 1261);
    }

    private static void promise13LeastBitsOfLikeOnes() {
        CHECK.due("all alike", Check.withGoods("1w;2t;3t").proof(8, 1), 1);
        CHECK.due("the second and the third", Check.withGoods("12w;20t;20t").proof(1, 1), 2);
        // 50 is 5, less by 45; 30 is less by 27, 20 by 18.
        CHECK.due("two of three", Check.withGoods("1w;30t;20t").proof(2, 1), 6);
        // 10 is less by 9, and so is 21.
        CHECK.due("10 ahead of 21", Check.withGoods("10w;11t").proof(2, 1), 1);
        CHECK.due("21 of the first two ahead of 10", Check.withGoods("12w;9t;10t").proof(2, 1), 3);
    }

    private static void promise13NoGoods() {
        for (int what = 0; what <= 1; what++) {
            for (int many = 1; many <= 8; many++) {
                CHECK.due("no GOODS: proof(" + many + ")", new ReadFromRight().proof(many, what), -100003);
            }
        }
        ReadFromRight x = Check.withGoods("10w");
        CHECK.due("one of the GOODS: proof(1, 0)", x.proof(1, 0), 9);
        x.wipe();
        CHECK.due("wiped: proof(1, 0)", x.proof(1, 0), -100003);
        CHECK.due("wiped: proof(0, 0)", x.proof(0, 0), -100002);
        CHECK.due("wiped: proof(1, 2)", x.proof(1, 2), -100002);
    }

    private static void promise14LessByJustD() {
        // 20 is PAID by 18 less, 21 by 9 less, 22 alike.
        int[] due = {2, 2, 1, 1, 0, 0};
        int[] d = {0, 8, 9, 17, 18, 19};
        for (int i = 0; i < d.length; i++) {
            CHECK.due("20w: raised(0, " + d[i] + ")", Check.withGoods("20w").raised(0, d[i]), due[i]);
        }
        CHECK.due("22w: raised(0, 0)", Check.withGoods("22w").raised(0, 0), 0);
        CHECK.due("23w, PAID by more: raised(0, 0)", Check.withGoods("23w").raised(0, 0), 0);
    }

    private static void promise14LeastAndGreatestD() {
        ReadFromRight x = Check.withGoods("900w");
        CHECK.due("raised(0, 0): 909", x.raised(0, 0), 9);
        CHECK.due("raised(0, 890): 901 is 109", x.raised(0, 890), 1);
        CHECK.due("raised(0, 891): 900 is 9", x.raised(0, 891), 0);
        CHECK.due("raised(0, 999)", x.raised(0, 999), 0);
        CHECK.due("raised(0, 1000)", x.raised(0, 1000), ReadFromRight.BAD);
        CHECK.due("raised(0, -1)", x.raised(0, -1), ReadFromRight.BAD);
        // 600 and 400 are 1000, which is PAID by 999 less; with 401 and more it is 1001 on.
        ReadFromRight y = Check.withGoods("600w;400t");
        CHECK.due("less by 999: raised(0, 999)", y.raised(0, 999), 0);
        CHECK.due("less by 999: raised(0, 998)", y.raised(0, 998), 1);
        // 999 and 999 and 2 are 2000, which is 2.
        ReadFromRight z = Check.withGoods("999w;999w;2w");
        CHECK.due("less by 1998: raised(2, 999)", z.raised(2, 999), 1);
    }

    private static void promise14NoughtTo99More() {
        // With 2 more it is no more than d less at 999 and 1001 only.
        CHECK.due("99 more", Check.withGoods("900w;2t").raised(0, 0), 99);
        CHECK.due("100 more", Check.withGoods("899w;2t").raised(0, 0), ReadFromRight.NONE);
        CHECK.due("98 more", Check.withGoods("901w;2t").raised(0, 0), 98);
        CHECK.due("1 more", Check.withGoods("21w").raised(0, 0), 1);
        CHECK.due("no more", Check.withGoods("1w").raised(0, 0), 0);
        // A PRICE of 999 may be more, too: to 36 it is 27 27; to 35 it is 28 19, and 28 28 is 9 more.
        ReadFromRight x = town("999w", 35);
        CHECK.due("999 and more", x.raised(0, 0), 9);
        CHECK.due("its PRICE is as it was", x.good(0, 0), 999);
    }

    private static void promise14BillsOfHoweverManyGoods() {
        // All three are 41, which is PAID by 27 less; none of the other BILLS by more than 18.
        ReadFromRight x = Check.withGoods("10w;27w;4w");
        CHECK.due("up to two: proof(2, 0)", x.proof(2, 0), 18);
        CHECK.due("up to three: proof(3, 0)", x.proof(3, 0), 27);
        for (int good = 0; good <= 2; good++) {
            CHECK.due("raised(" + good + ", 27)", x.raised(good, 27), 0);
            CHECK.due("raised(" + good + ", 26): 42 is 24", x.raised(good, 26), 1);
        }
        // All eight are 20, which is PAID by 18 less; none of the other BILLS by more than 9.
        ReadFromRight y = Check.withGoods("3w;5w;2w;3w;1w;1w;3w;2w");
        CHECK.due("up to seven: proof(7, 0)", y.proof(7, 0), 9);
        CHECK.due("all eight: proof(8, 0)", y.proof(8, 0), 18);
        CHECK.due("all eight: raised(0, 18)", y.raised(0, 18), 0);
        CHECK.isTrue("all eight: raised(0, 17) is not 0", y.raised(0, 17) != 0);
    }

    private static void promise14BillsWithoutTheGood() {
        ReadFromRight x = Check.withGoods("20w;3t");
        CHECK.due("20 alone is less by 18: raised(1, 17)", x.raised(1, 17), ReadFromRight.NONE);
        CHECK.due("20 alone is less by 18: raised(1, 18)", x.raised(1, 18), 0);
        CHECK.due("its own PRICE is more: raised(0, 17)", x.raised(0, 17), 1);
        CHECK.due("the last of the GOODS: raised(2, 0)", x.raised(2, 0), ReadFromRight.BAD);
        ReadFromRight y = Check.withGoods("1w;1w;1w;1w;1w;1w;1w;1w");
        CHECK.due("the eighth: raised(7, 0)", y.raised(7, 0), 0);
        CHECK.due("a ninth: raised(8, 0)", y.raised(8, 0), ReadFromRight.BAD);
    }
}
