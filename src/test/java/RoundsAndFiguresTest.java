/** Promises 15 and 16: rounds, figures. */
public final class RoundsAndFiguresTest {
    private static final Check CHECK = new Check();

    public static void main(String[] args) {
        promise15Rounds();
        promise15RoundsThatComeRound();
        promise15RoundsRefused();
        promise16Figures();
        promise16FiguresToBases();
        promise16FiguresByTrying();
        CHECK.end();
    }

    private static void rounds(ReadFromRight x, int purse, int n, int many, int left, int back) {
        String call = "rounds(" + purse + ", " + n + ", ";
        CHECK.due(call + "0)", x.rounds(purse, n, 0), many);
        CHECK.due(call + "1)", x.rounds(purse, n, 1), left);
        CHECK.due(call + "2)", x.rounds(purse, n, 2), back);
    }

    private static void promise15Rounds() {
        ReadFromRight x = new ReadFromRight();
        rounds(x, 11, 21, 0, 11, -1);
        rounds(x, 12, 21, 1, 0, -1);
        // 30 - 12 = 18: 81; 69: 96; 84: 48; 36: 63; 51: 15; 3.
        rounds(x, 30, 21, 6, 3, -1);
        rounds(x, 0, 1, 0, 0, -1);
        rounds(x, 9999, 9999, 1, 0, -1);
        x.set(1, 1);
        // 110 - 50 = 60; 10; then it is not enough.
        rounds(x, 110, 50, 2, 10, -1);
    }

    private static void promise15RoundsThatComeRound() {
        ReadFromRight x = new ReadFromRight();
        rounds(x, 0, 0, 200, 0, 1);
        rounds(x, 12, 0, 200, 12, 2);
        // 120 is 21 behind the first, 12 behind the second, 21 behind the third.
        rounds(x, 120, 0, 200, 12, 3);
        // 19 - 1 = 18: 81; 80: 8, then down to nought.
        rounds(x, 19, 1, 10, 0, -1);
        x.set(1, 1);
        rounds(x, 120, 0, 200, 120, 2);
        x.set(0, 2);
        CHECK.due("to 2: it comes round with the last", x.rounds(4290, 7, 2), 200);
        CHECK.due("to 2: it would come round with the 201st", x.rounds(8723, 86, 2), ReadFromRight.NONE);
        CHECK.due("to 2: 200 at most", x.rounds(8723, 86, 0), 200);
    }

    private static void promise15RoundsRefused() {
        ReadFromRight x = new ReadFromRight();
        CHECK.due("rounds(-1, 0, 0)", x.rounds(-1, 0, 0), ReadFromRight.BAD);
        CHECK.due("rounds(10000, 0, 0)", x.rounds(10000, 0, 0), ReadFromRight.BAD);
        CHECK.due("rounds(0, -1, 0)", x.rounds(0, -1, 0), ReadFromRight.BAD);
        CHECK.due("rounds(0, 10000, 0)", x.rounds(0, 10000, 0), ReadFromRight.BAD);
        CHECK.due("rounds(0, 0, -1)", x.rounds(0, 0, -1), ReadFromRight.BAD);
        CHECK.due("rounds(0, 0, 3)", x.rounds(0, 0, 3), ReadFromRight.BAD);
        x.set(0, 36);
        CHECK.due("the purse may grow beyond 9999", x.rounds(9999, 0, 1), 9999);
    }

    private static void figures(String of, ReadFromRight x, int many, int... due) {
        for (int what = 0; what < 4; what++) {
            CHECK.due(of + ": figures(" + many + ", " + what + ")", x.figures(many, what), due[what]);
        }
    }

    private static void promise16Figures() {
        ReadFromRight x = new ReadFromRight();
        figures("noughts fall off", x, 1, 9, 0, 0, 1);
        figures("noughts fall off", x, 2, 9, 45, 36, 90);
        figures("noughts fall off", x, 3, 90, 450, 360, 900);
        x.set(1, 1);
        figures("noughts stay", x, 1, 9, 0, 0, 1);
        figures("noughts stay", x, 2, 18, 36, 36, 19);
        figures("noughts stay", x, 3, 108, 396, 396, 109);
        for (int bad : new int[] {0, -1, 4, Integer.MAX_VALUE}) {
            CHECK.due("figures(" + bad + ", 0)", x.figures(bad, 0), ReadFromRight.BAD);
        }
        CHECK.due("figures(1, -1)", x.figures(1, -1), ReadFromRight.BAD);
        CHECK.due("figures(1, 4)", x.figures(1, 4), ReadFromRight.BAD);
    }

    private static void promise16FiguresToBases() {
        ReadFromRight x = new ReadFromRight();
        x.set(0, 2);
        figures("to 2", x, 1, 1, 0, 0, 1);
        figures("to 2", x, 2, 1, 1, 0, 2);
        figures("to 2", x, 3, 2, 2, 0, 4);
        x.set(1, 1);
        figures("to 2, noughts stay", x, 2, 2, 0, 0, 2);
        figures("to 2, noughts stay", x, 3, 4, 0, 0, 4);
        x.set(1, 0);
        figures("to 2, the law is another between like calls", x, 3, 2, 2, 0, 4);
        x.set(1, 1);
        x.set(0, 3);
        // 10 11 12 20 21 22 to 3.
        figures("to 3, noughts stay", x, 2, 4, 1, 1, 5);
    }

    private static void promise16FiguresByTrying() {
        for (int base = 2; base <= 36; base++) {
            for (int noughts = 0; noughts <= 1; noughts++) {
                ReadFromRight x = new ReadFromRight();
                PlainModel m = new PlainModel();
                x.set(0, base);
                m.set(0, base);
                x.set(1, noughts);
                m.set(1, noughts);
                for (int many = 1; many <= 3; many++) {
                    figures("to " + base + ", noughts " + noughts, x, many,
                        m.figures(many, 0), m.figures(many, 1), m.figures(many, 2), m.figures(many, 3));
                }
            }
        }
    }
}
