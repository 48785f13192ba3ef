/** Promises 19 and 20: smudged, game. */
public final class SmudgesAndTurnsTest {
    private static final Check CHECK = new Check();

    public static void main(String[] args) {
        promise19Smudged();
        promise19SmudgedForms();
        promise19SmudgedRefused();
        promise20Game();
        promise20GameRefused();
        CHECK.end();
    }

    private static void smudged(ReadFromRight x, int many, int first, int... pattern) {
        for (int form = 0; form < 3; form++) {
            Check.fill(x, form, form, pattern);
            String of = "pattern " + java.util.Arrays.toString(pattern) + " of form " + form;
            CHECK.due(of + ": smudged(.., 0)", x.smudged(form, 0), many);
            CHECK.due(of + ": smudged(.., 1)", x.smudged(form, 1), first);
        }
    }

    private static void promise19Smudged() {
        // 1: 21, 2: 9, 3: 12, 4: 901, 5: 121, 6: 811, 7: 31.
        ReadFromRight x = Check.withGoods("12w;9w;109t");
        smudged(x, 1, 3, 1, 2);
        smudged(x, 1, 1, 2, 1);
        smudged(x, 2, 1, -1, 1);
        smudged(x, 3, 1, -1, -1);
        smudged(x, 3, 4, -1, -1, -1);
        smudged(x, 1, 6, -1, 1, -1);
        smudged(x, 3, 4, -1, -1, 1);
        smudged(x, 0, -1, 1, 1, -1);
        smudged(x, 1, 2, -1);
        smudged(x, 1, 2, 9);
        smudged(x, 0, -1, 8);
        smudged(x, 0, -1);
        smudged(x, 0, -1, 0, 9);
        smudged(x, 0, -1, -1, -1, -1, -1);
        smudged(x, 0, -1, -1, 35);
        // What no figure can be fits none.
        smudged(x, 0, -1, -1, 36);
        smudged(x, 0, -1, -1, -2);
    }

    private static void promise19SmudgedForms() {
        ReadFromRight x = Check.withGoods("36w;1t");
        x.set(0, 36);
        // 36 is 1, 1 is 1, 37 is 1 1.
        smudged(x, 2, 1, 1);
        smudged(x, 1, 3, 1, 1);
        x.set(1, 1);
        smudged(x, 1, 1, 1, 0);
        ReadFromRight y = Check.withGoods("71w");
        y.set(0, 36);
        smudged(y, 1, 1, 35, 1);
        smudged(y, 0, -1, 1, 35);
        smudged(new ReadFromRight(), 0, -1, -1);
    }

    private static void promise19SmudgedRefused() {
        ReadFromRight x = Check.withGoods("12w");
        CHECK.due("smudged(-1, 0)", x.smudged(-1, 0), ReadFromRight.BAD);
        CHECK.due("smudged(4, 0)", x.smudged(4, 0), ReadFromRight.BAD);
        CHECK.due("smudged(0, 2): BAD comes ahead of NULL", x.smudged(0, 2), ReadFromRight.BAD);
        CHECK.due("smudged(0, -1)", x.smudged(0, -1), ReadFromRight.BAD);
        CHECK.due("no FINDING yet", x.count(8), 0);
        CHECK.due("smudged(0, 1)", x.smudged(0, 1), -11);
        CHECK.due("count(8)", x.count(8), 1);
    }

    private static void game(ReadFromRight x, int n, int amounts, int end, int paid, int first) {
        String call = "game(" + n + ", " + amounts + ", " + end + ", ";
        CHECK.due(call + "0)", x.game(n, amounts, end, 0), paid);
        CHECK.due(call + "1)", x.game(n, amounts, end, 1), first);
    }

    private static void promise20Game() {
        ReadFromRight x = new ReadFromRight();
        game(x, 31, 2, 31, 13, 0);
        game(x, 200, 1022, 200, 2, 0);
        game(x, 200, 1022, 1, 2, 0);
        game(x, 30, 2, 31, 13, 1);
        // From 29 by 1 or 2 to 31: by 2 it is 13; by 1 the other chooses 31 (13) or 32 (23).
        game(x, 29, 6, 31, 13, 2);
        // From 18 by 1 or 2 to 20: by 2 it is 2; by 1 the other makes 21 (12) of 19.
        game(x, 18, 6, 20, 2, 2);
        // From 17 by 1 or 2: 18, and the other makes 19 or 20 (2): 19 is then 20 (2) or 21 (12); all are 2 or more.
        game(x, 17, 6, 20, 2, 1);
        // Either way 1 is PAID: of like ones the least.
        game(x, 0, 2 | 4, 1, 1, 1);
        game(x, 9, 512 | 2, 10, 1, 1);
        game(x, 199, 512, 200, 802, 9);
        game(x, 0, 512, 200, 702, 9);
        x.set(1, 1);
        game(x, 9, 512 | 2, 10, 10, 1);
        game(x, 9, 512 | 4, 10, 11, 2);
        x.set(0, 2);
        game(x, 7, 2, 8, 8, 1);
    }

    private static void promise20GameRefused() {
        ReadFromRight x = new ReadFromRight();
        int[][] bad = {{-1, 2, 1, 0}, {201, 2, 1, 0}, {0, 0, 1, 0}, {0, 1, 1, 0}, {0, 3, 1, 0}, {0, 1024, 1, 0},
            {0, 1026, 1, 0}, {0, -2, 1, 0}, {0, Integer.MIN_VALUE, 1, 0}, {0, 2, 0, 0}, {0, 2, -1, 0}, {0, 2, 201, 0},
            {0, 2, 1, -1}, {0, 2, 1, 2}, {5, 3, 1, 1}};
        for (int[] one : bad) {
            CHECK.due("game(" + one[0] + ", " + one[1] + ", " + one[2] + ", " + one[3] + ")",
                x.game(one[0], one[1], one[2], one[3]), ReadFromRight.BAD);
        }
    }
}
