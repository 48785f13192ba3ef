import java.util.Arrays;

/** Promises 19 and 20: each sentence that names an edge, for itself. What is refused there is in RefusalsTest, too. */
public final class SmudgesAndTurnsEdgesTest {
    private static final Check CHECK = new Check();
    private static final int NONE = ReadFromRight.NONE;

    public static void main(String[] args) {
        promise19AsManyFiguresAsThereAre();
        promise19TheHighestFirst();
        promise19LeastAndGreatestFigure();
        promise19WhatIsNoFigureFitsNothing();
        promise19TheOneWithTheLeastBits();
        promise19NoneFits();
        promise19AllOfEightGoods();
        promise19SmudgesOfEachForm();
        promise19EachSheet();
        promise19ItIsByTheLawOfNow();
        promise20LeastAndGreatestNumber();
        promise20LeastAndGreatestEnd();
        promise20EndOrMore();
        promise20EachAmount();
        promise20OfLikeOnesTheLeastAmount();
        promise20TheFirstForTheLeastTheOtherForTheMost();
        promise20ItIsByTheLawOfNow();
        CHECK.end();
    }

    private static void smudged(ReadFromRight x, int many, int first, int... pattern) {
        Check.fill(x, 0, 2, pattern);
        String of = "pattern " + Arrays.toString(pattern);
        CHECK.due(of + ": smudged(0, 0)", x.smudged(0, 0), many);
        CHECK.due(of + ": smudged(0, 1)", x.smudged(0, 1), first);
    }

    private static int[] smudges(int many) {
        int[] pattern = new int[many];
        Arrays.fill(pattern, -1);
        return pattern;
    }

    private static void promise19AsManyFiguresAsThereAre() {
        // 1, 10, 100 apart; 11, 101, 110, 111 together: PAID by 1, 1, 1, 11, 101, 11, 111.
        ReadFromRight x = Check.withGoods("1w;10w;100w");
        smudged(x, 0, NONE);
        smudged(x, 3, 1, -1);
        smudged(x, 2, 3, -1, -1);
        smudged(x, 2, 5, -1, -1, -1);
        smudged(x, 0, NONE, smudges(4));
        smudged(x, 0, NONE, smudges(60));
        // No nought stands ahead of a number.
        smudged(x, 0, NONE, 0, 1);
        smudged(x, 0, NONE, 0);
        x.set(1, 1);
        // Noughts stay: 1, 10, 11, 100, 101, 110, 111.
        smudged(x, 1, 1, -1);
        smudged(x, 2, 2, -1, -1);
        smudged(x, 4, 4, -1, -1, -1);
    }

    private static void promise19TheHighestFirst() {
        ReadFromRight x = Check.withGoods("12w;123t");
        // PAID by 21, 321, 531.
        smudged(x, 1, 1, 2, 1);
        smudged(x, 0, NONE, 1, 2);
        smudged(x, 1, 2, 3, 2, 1);
        smudged(x, 0, NONE, 1, 2, 3);
        smudged(x, 1, 2, 3, -1, -1);
        smudged(x, 1, 2, -1, 2, -1);
        smudged(x, 2, 2, -1, -1, 1);
        smudged(x, 0, NONE, -1, -1, 3);
        smudged(x, 1, 3, 5, -1, -1);
    }

    private static void promise19LeastAndGreatestFigure() {
        ReadFromRight x = Check.withGoods("71w;36t");
        x.set(0, 36);
        x.set(1, 1);
        // 1 35 is 35 1; 1 0 stays; 2 35 is 35 2.
        smudged(x, 1, 1, 35, 1);
        smudged(x, 2, 1, 35, -1);
        smudged(x, 1, 2, 1, 0);
        smudged(x, 1, 2, -1, 0);
        smudged(x, 0, NONE, 34, 1);
        smudged(x, 0, NONE, 36, 1);
        smudged(x, 0, NONE, 1, 1);
    }

    private static void promise19WhatIsNoFigureFitsNothing() {
        ReadFromRight x = Check.withGoods("12w");
        for (int not : new int[] {-2, 36, 10, 100, Integer.MIN_VALUE, Integer.MAX_VALUE}) {
            smudged(x, 0, NONE, not, 1);
            smudged(x, 0, NONE, 2, not);
            smudged(x, 0, NONE, not, -1);
        }
        CHECK.due("that is no FINDING", x.count(8), 0);
    }

    private static void promise19TheOneWithTheLeastBits() {
        // All three alone are 5; 10 (1), 10 (1), 10 (1), 15 (51).
        ReadFromRight x = Check.withGoods("5w;5t;5t");
        smudged(x, 3, 1, 5);
        smudged(x, 3, 3, 1);
        smudged(x, 6, 1, -1);
        smudged(x, 1, 7, 5, 1);
        // 3 (bits 3) is less than 4 (bit 4), though it has more GOODS.
        ReadFromRight y = Check.withGoods("1w;2w;3t");
        smudged(y, 2, 3, 3);
    }

    private static void promise19NoneFits() {
        ReadFromRight none = new ReadFromRight();
        smudged(none, 0, NONE);
        smudged(none, 0, NONE, -1);
        smudged(none, 0, NONE, 0);
        ReadFromRight fault = Check.withGoods("5w;");
        smudged(fault, 0, NONE, -1);
        smudged(fault, 0, NONE, 5);
        ReadFromRight x = Check.withGoods("5w");
        smudged(x, 1, 1, 5);
        smudged(x, 0, NONE, 4);
        smudged(x, 0, NONE, 6);
        CHECK.due("NONE is no FINDING", x.count(8), 0);
    }

    private static void promise19AllOfEightGoods() {
        ReadFromRight x = Check.withGoods("1w;1w;1w;1w;1w;1w;1w;1w");
        smudged(x, 255, 1, -1);
        smudged(x, 8, 1, 1);
        smudged(x, 28, 3, 2);
        smudged(x, 8, 127, 7);
        smudged(x, 1, 255, 8);
        smudged(x, 0, NONE, 9);
        // Five and more of 999 have 13 figures to 2: 56, 28, 8 and 1 BILLS.
        ReadFromRight y = Check.withGoods("999w;999w;999w;999w;999w;999w;999w;999w");
        y.set(0, 2);
        y.set(1, 1);
        smudged(y, 93, 31, smudges(13));
        smudged(y, 0, NONE, smudges(14));
    }

    private static void promise19SmudgesOfEachForm() {
        for (int form = 0; form <= 2; form++) {
            ReadFromRight x = Check.withGoods("12w;9t");
            Check.fill(x, 1, form, -1, 2);
            // 21 is PAID by 12.
            CHECK.due("form " + form + ": smudged(1, 0)", x.smudged(1, 0), 1);
            CHECK.due("form " + form + ": smudged(1, 1)", x.smudged(1, 1), 3);
            x.lay(1, form, 0, 255);
            CHECK.due("255 is -1 as a byte alone: form " + form, x.smudged(1, 0), form == 0 ? 1 : 0);
            x.lay(1, form, 0, 65535);
            CHECK.due("65535 is -1 as a byte or a short: form " + form, x.smudged(1, 0), form <= 1 ? 1 : 0);
        }
    }

    private static void promise19EachSheet() {
        ReadFromRight x = Check.withGoods("5w");
        for (int s = 0; s <= 3; s++) {
            CHECK.due("LOST: smudged(" + s + ", 0)", x.smudged(s, 0), -11);
            Check.fill(x, s, 0, 5);
            CHECK.due("smudged(" + s + ", 0)", x.smudged(s, 0), 1);
            CHECK.due("smudged(" + s + ", 1)", x.smudged(s, 1), 1);
            CHECK.due("its item is as it was", x.get(s, 0, 0), 5);
            x.lose(s);
            CHECK.due("LOST again: smudged(" + s + ", 1)", x.smudged(s, 1), -11);
        }
    }

    private static void promise19ItIsByTheLawOfNow() {
        ReadFromRight x = Check.withGoods("10w");
        smudged(x, 1, 1, 1);
        x.set(1, 1);
        smudged(x, 0, NONE, 1);
        smudged(x, 1, 1, 1, 0);
        x.set(0, 11);
        smudged(x, 1, 1, 10);
        x.wipe();
        smudged(x, 0, NONE, 10);
    }

    private static void game(ReadFromRight x, int n, int amounts, int end, int paid, int first) {
        String call = "game(" + n + ", " + amounts + ", " + end + ", ";
        CHECK.due(call + "0)", x.game(n, amounts, end, 0), paid);
        CHECK.due(call + "1)", x.game(n, amounts, end, 1), first);
    }

    private static void promise20LeastAndGreatestNumber() {
        ReadFromRight x = new ReadFromRight();
        game(x, 0, 2, 1, 1, 1);
        game(x, 0, 2, 200, 2, 1);
        game(x, 200, 2, 200, 2, 0);
        game(x, 200, 1022, 1, 2, 0);
        CHECK.due("game(-1, 2, 200, 0)", x.game(-1, 2, 200, 0), ReadFromRight.BAD);
        CHECK.due("game(201, 2, 200, 0)", x.game(201, 2, 200, 0), ReadFromRight.BAD);
    }

    private static void promise20LeastAndGreatestEnd() {
        ReadFromRight x = new ReadFromRight();
        game(x, 0, 512, 1, 9, 9);
        game(x, 1, 512, 1, 1, 0);
        game(x, 199, 2, 200, 2, 1);
        game(x, 199, 512, 200, 802, 9);
        CHECK.due("game(0, 2, 0, 0)", x.game(0, 2, 0, 0), ReadFromRight.BAD);
        CHECK.due("game(0, 2, 201, 0)", x.game(0, 2, 201, 0), ReadFromRight.BAD);
    }

    private static void promise20EndOrMore() {
        ReadFromRight x = new ReadFromRight();
        game(x, 30, 2, 31, 13, 1);
        game(x, 31, 2, 31, 13, 0);
        game(x, 32, 2, 31, 23, 0);
        // One of 9 goes beyond it.
        game(x, 30, 512, 31, 93, 9);
        game(x, 21, 512, 31, 93, 9);
        // 22 is just 9 ahead of it.
        game(x, 22, 512, 31, 13, 9);
        game(x, 40, 1022, 31, 4, 0);
        game(x, 0, 4, 9, 1, 2);
    }

    private static void promise20EachAmount() {
        for (int amount = 1; amount <= 9; amount++) {
            ReadFromRight x = new ReadFromRight();
            game(x, 0, 1 << amount, 1, amount, amount);
            game(x, 20, 1 << amount, 21, amount * 10 + 2, amount);
        }
        ReadFromRight x = new ReadFromRight();
        game(x, 20, 1022, 21, 12, 1);
        game(x, 29, 1022, 30, 3, 1);
        // Not by 1: 31 is 13. Not by 1 and 2: 32 is 23.
        game(x, 29, 1020, 30, 13, 2);
        game(x, 29, 1016, 30, 23, 3);
        for (int bad : new int[] {0, 1, 3, 1023, 1024, 1025, -2}) {
            CHECK.due("game(0, " + bad + ", 1, 0)", x.game(0, bad, 1, 0), ReadFromRight.BAD);
        }
    }

    private static void promise20OfLikeOnesTheLeastAmount() {
        ReadFromRight x = new ReadFromRight();
        game(x, 0, 1022, 1, 1, 1);
        // 1 or 9 to 2: by 9 it is 9; by 1 the other makes 2 or 10 (1): 2.
        game(x, 0, 514, 2, 2, 1);
        // From 0 to 9 with all amounts: noughts stay, by 9 it is 9; by 1 the other makes 9 or 10 of it: 10.
        x.set(1, 1);
        game(x, 0, 1022, 9, 9, 9);
        x.set(1, 0);
        // Noughts fall off: by 1 the other makes 9 of it, too.
        game(x, 0, 1022, 9, 9, 1);
        // To 2, 1 is PAID for 2, 4 and 8: from 1 by 1, 3 or 7.
        x.set(0, 2);
        game(x, 1, 2 | 8 | 128, 2, 1, 1);
        game(x, 1, 8 | 128, 2, 1, 3);
        game(x, 1, 128, 2, 1, 7);
    }

    private static void promise20TheFirstForTheLeastTheOtherForTheMost() {
        ReadFromRight x = new ReadFromRight();
        // From 18 by 1 or 2 to 20: by 1 the other makes 21 (12) of 19, not 20 (2); by 2 it is 20.
        game(x, 18, 6, 20, 2, 2);
        // From 198 by 1 or 9 to 200: by 1 the other makes 208 (802) of 199; by 9 it is 207 (702).
        game(x, 198, 514, 200, 702, 9);
        // From 197: by 1 the other makes 207 (702) of 198; by 9 it is 206 (602).
        game(x, 197, 514, 200, 602, 9);
        game(x, 5, 14, 31, 13, 1);
    }

    private static void promise20ItIsByTheLawOfNow() {
        ReadFromRight x = new ReadFromRight();
        game(x, 199, 1022, 200, 2, 1);
        x.set(1, 1);
        game(x, 199, 1022, 200, 102, 2);
        x.set(0, 2);
        // To 2: 200 is 1 1 0 0 1 0 0 0: noughts stay, 1 0 0 1 1 0 0 0.
        game(x, 200, 2, 200, 152, 0);
        x.set(2, 99);
        game(x, 200, 2, 200, 152, 0);
    }
}
