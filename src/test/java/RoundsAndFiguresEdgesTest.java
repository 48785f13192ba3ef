/** Promises 15 and 16: each sentence that names an edge, for itself. What is refused there is in RefusalsTest, too. */
public final class RoundsAndFiguresEdgesTest {
    private static final Check CHECK = new Check();
    private static final int NONE = ReadFromRight.NONE;

    public static void main(String[] args) {
        promise15LeastAndGreatestPurse();
        promise15LeastAndGreatestNumber();
        promise15NoMoreThanIsInThePurse();
        promise15TwoHundredAtMost();
        promise15ComesRoundToAheadOfThatRound();
        promise15ComesRoundToAheadOfOneAhead();
        promise15ComesRoundNever();
        promise15ComesRoundWithTheLastOrLater();
        promise15EachCallStartsAnew();
        promise15FeesAndGoodsAreNoPartOfIt();
        promise16OneToThreeFigures();
        promise16LeastAndGreatestBase();
        promise16FirstFigureIsNotNought();
        promise16FarthestOfLikeOnesTheLeast();
        promise16NothingOfAnOlderLawIsLeft();
        CHECK.end();
    }

    private static ReadFromRight town(int base, int noughts) {
        ReadFromRight x = new ReadFromRight();
        x.set(0, base);
        x.set(1, noughts);
        return x;
    }

    private static void rounds(ReadFromRight x, int purse, int n, int many, int left, int back) {
        String call = "rounds(" + purse + ", " + n + ", ";
        CHECK.due(call + "0)", x.rounds(purse, n, 0), many);
        CHECK.due(call + "1)", x.rounds(purse, n, 1), left);
        CHECK.due(call + "2)", x.rounds(purse, n, 2), back);
    }

    private static void promise15LeastAndGreatestPurse() {
        ReadFromRight x = town(10, 0);
        rounds(x, 0, 1, 0, 0, NONE);
        rounds(x, 0, 0, 200, 0, 1);
        rounds(x, 9999, 1, 36, 0, NONE);
        rounds(x, 9999, 0, 200, 9999, 1);
        CHECK.due("rounds(-1, 1, 1)", x.rounds(-1, 1, 1), ReadFromRight.BAD);
        CHECK.due("rounds(10000, 1, 1)", x.rounds(10000, 1, 1), ReadFromRight.BAD);
        x.set(1, 1);
        rounds(x, 9999, 1, 117, 0, NONE);
    }

    private static void promise15LeastAndGreatestNumber() {
        ReadFromRight x = town(10, 0);
        rounds(x, 5, 0, 200, 5, 1);
        rounds(x, 9999, 9999, 1, 0, NONE);
        rounds(x, 9998, 9999, 0, 9998, NONE);
        CHECK.due("rounds(5, -1, 0)", x.rounds(5, -1, 0), ReadFromRight.BAD);
        CHECK.due("rounds(5, 10000, 0)", x.rounds(5, 10000, 0), ReadFromRight.BAD);
        // Base 21: 9999 is 1 1 14 3, of which 33979 is PAID, more than any PURSE at first.
        rounds(town(21, 0), 9999, 9999, 0, 9999, NONE);
    }

    private static void promise15NoMoreThanIsInThePurse() {
        ReadFromRight x = town(10, 0);
        rounds(x, 11, 21, 0, 11, NONE);
        rounds(x, 12, 21, 1, 0, NONE);
        // 1 is left, and not enough.
        rounds(x, 13, 21, 1, 1, NONE);
        rounds(x, 8998, 9998, 0, 8998, NONE);
        rounds(x, 8999, 9998, 1, 0, NONE);
        // 24 - 12 = 12: 21; 9.
        rounds(x, 24, 21, 2, 9, NONE);
    }

    private static void promise15TwoHundredAtMost() {
        ReadFromRight x = town(4, 0);
        rounds(x, 6905, 9, 199, 5, NONE);
        rounds(x, 3755, 2, 200, 1, NONE);
        // A 201st would leave 1, too.
        rounds(x, 1963, 2, 200, 3, NONE);
        CHECK.due("one more from there: rounds(3, 2, 0)", x.rounds(3, 2, 0), 1);
        CHECK.due("one more from there: rounds(3, 2, 1)", x.rounds(3, 2, 1), 1);
    }

    private static void promise15ComesRoundToAheadOfThatRound() {
        ReadFromRight x = town(10, 0);
        rounds(x, 0, 0, 200, 0, 1);
        rounds(x, 7, 0, 200, 7, 1);
        // 21 - 9 = 12: 21.
        rounds(x, 21, 9, 200, 21, 1);
    }

    private static void promise15ComesRoundToAheadOfOneAhead() {
        ReadFromRight x = town(10, 0);
        // 12, 21, 12: with the second to what was in it ahead of the first.
        rounds(x, 12, 0, 200, 12, 2);
        // 120, 21, 12, 21: with the third to what was in it ahead of the second.
        rounds(x, 120, 0, 200, 12, 3);
        // 110, 11, 11: with the second to what was in it ahead of the second.
        rounds(x, 110, 0, 200, 11, 2);
        // 31 - 9 = 22: 22; 13: 31.
        rounds(x, 31, 9, 200, 31, 2);
    }

    private static void promise15ComesRoundNever() {
        ReadFromRight x = town(10, 0);
        // No ROUND at all.
        rounds(x, 5, 6, 0, 5, NONE);
        // 1 is taken out of 100, and so on, until nothing is left.
        CHECK.due("rounds(100, 100, 2)", x.rounds(100, 100, 2), NONE);
        CHECK.due("rounds(100, 100, 0)", x.rounds(100, 100, 0), 19);
    }

    private static void promise15ComesRoundWithTheLastOrLater() {
        ReadFromRight x = town(2, 1);
        rounds(x, 4290, 7, 200, 4290, 200);
        // With the 201st it would.
        rounds(x, 8723, 86, 200, 12923, NONE);
    }

    private static void promise15EachCallStartsAnew() {
        ReadFromRight x = town(10, 0);
        CHECK.due("rounds(0, 0, 2)", x.rounds(0, 0, 2), 1);
        CHECK.due("rounds(5, 6, 2)", x.rounds(5, 6, 2), NONE);
        CHECK.due("rounds(5, 6, 0)", x.rounds(5, 6, 0), 0);
        CHECK.due("rounds(30, 21, 1)", x.rounds(30, 21, 1), 3);
        x.set(1, 1);
        CHECK.due("behind set: rounds(110, 50, 1)", x.rounds(110, 50, 1), 10);
    }

    private static void promise15FeesAndGoodsAreNoPartOfIt() {
        ReadFromRight x = Check.withGoods("12w;9t");
        x.set(2, 99);
        x.set(3, 4);
        rounds(x, 12, 21, 1, 0, NONE);
    }

    private static void figures(ReadFromRight x, int many, int... due) {
        String of = "to " + x.count(4) + ", noughts " + x.count(5);
        for (int what = 0; what < 4; what++) {
            CHECK.due(of + ": figures(" + many + ", " + what + ")", x.figures(many, what), due[what]);
        }
    }

    private static void promise16OneToThreeFigures() {
        ReadFromRight x = town(10, 0);
        figures(x, 1, 9, 0, 0, 1);
        figures(x, 2, 9, 45, 36, 90);
        figures(x, 3, 90, 450, 360, 900);
        CHECK.due("figures(0, 0)", x.figures(0, 0), ReadFromRight.BAD);
        CHECK.due("figures(4, 0)", x.figures(4, 0), ReadFromRight.BAD);
        CHECK.due("figures(3, 4)", x.figures(3, 4), ReadFromRight.BAD);
        CHECK.due("figures(3, -1)", x.figures(3, -1), ReadFromRight.BAD);
    }

    private static void promise16LeastAndGreatestBase() {
        figures(town(2, 0), 1, 1, 0, 0, 1);
        figures(town(2, 0), 2, 1, 1, 0, 2);
        figures(town(2, 0), 3, 2, 2, 0, 4);
        figures(town(2, 1), 1, 1, 0, 0, 1);
        figures(town(2, 1), 2, 2, 0, 0, 2);
        figures(town(2, 1), 3, 4, 0, 0, 4);
        figures(town(36, 0), 1, 35, 0, 0, 1);
        figures(town(36, 0), 2, 35, 630, 595, 1260);
        figures(town(36, 0), 3, 1260, 22680, 21420, 45360);
        figures(town(36, 1), 2, 70, 595, 595, 71);
        figures(town(36, 1), 3, 1330, 22015, 22015, 1331);
    }

    private static void promise16FirstFigureIsNotNought() {
        for (int base = 2; base <= 36; base++) {
            for (int noughts = 0; noughts <= 1; noughts++) {
                ReadFromRight x = town(base, noughts);
                int all = base - 1;
                for (int many = 1; many <= 3; many++) {
                    int counted = x.figures(many, 0) + x.figures(many, 1) + x.figures(many, 2);
                    CHECK.due("to " + base + ": all numbers of " + many + " figures", counted, all);
                    all *= base;
                }
            }
        }
    }

    private static void promise16FarthestOfLikeOnesTheLeast() {
        // All of one figure are PAID alike: the least is 1.
        CHECK.due("figures(1, 3)", town(36, 1).figures(1, 3), 1);
        // 900 is 9 and 990 is 99: both by 891.
        CHECK.due("900 ahead of 990", town(10, 0).figures(3, 3), 900);
        // 19 and 91 both by 72; 109 and 901 both by 792, and so are 119, 129, ...
        CHECK.due("19 ahead of 91", town(10, 1).figures(2, 3), 19);
        CHECK.due("109 ahead of 901", town(10, 1).figures(3, 3), 109);
        // To 3: 5 (1 2) is 7, 7 is 5, 6 (2 0) stays.
        CHECK.due("5 ahead of 7", town(3, 1).figures(2, 3), 5);
        // To 2 all of two figures are PAID alike if noughts stay: the least is 2.
        CHECK.due("2 ahead of 3", town(2, 1).figures(2, 3), 2);
    }

    private static void promise16NothingOfAnOlderLawIsLeft() {
        ReadFromRight x = town(10, 0);
        figures(x, 2, 9, 45, 36, 90);
        x.set(1, 1);
        figures(x, 2, 18, 36, 36, 19);
        x.set(0, 3);
        figures(x, 2, 4, 1, 1, 5);
        CHECK.due("set(0, 37)", x.set(0, 37), ReadFromRight.BAD);
        figures(x, 2, 4, 1, 1, 5);
        figures(x, 1, 2, 0, 0, 1);
        figures(x, 2, 4, 1, 1, 5);
    }
}
