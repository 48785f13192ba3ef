/** Promises 21 to 27: sheet, lose, lay, get, copy, write, count. */
public final class SheetsTest {
    private static final Check CHECK = new Check();
    private static final int LEAST = Integer.MIN_VALUE;

    public static void main(String[] args) {
        promise21Sheet();
        promise22Lose();
        promise23Lay();
        promise23LayRefused();
        promise24Get();
        promise25Copy();
        promise25CopyRefused();
        promise26Write();
        promise27Count();
        CHECK.end();
    }

    private static void items(String of, ReadFromRight x, int s, int form, int... due) {
        for (int i = 0; i < due.length; i++) {
            CHECK.due(of + ": get(" + s + ", " + form + ", " + i + ")", x.get(s, form, i), due[i]);
        }
        CHECK.due(of + ": one more", x.get(s, form, due.length), LEAST);
    }

    private static void promise21Sheet() {
        ReadFromRight x = new ReadFromRight();
        CHECK.due("sheet(0, 0, 0)", x.sheet(0, 0, 0), 0);
        CHECK.due("sheet(3, 2, 60)", x.sheet(3, 2, 60), 60);
        CHECK.due("lay(3, 2, 59, 7)", x.lay(3, 2, 59, 7), 1);
        CHECK.due("sheet(3, 1, 60) is a new row", x.sheet(3, 1, 60), 60);
        CHECK.due("get(3, 1, 59)", x.get(3, 1, 59), 0);
        CHECK.due("sheet(-1, 0, 1)", x.sheet(-1, 0, 1), -2);
        CHECK.due("sheet(4, 0, 1)", x.sheet(4, 0, 1), -2);
        CHECK.due("sheet(0, -1, 1)", x.sheet(0, -1, 1), -2);
        CHECK.due("sheet(0, 3, 1)", x.sheet(0, 3, 1), -2);
        CHECK.due("sheet(0, 0, 61)", x.sheet(0, 0, 61), -2);
        CHECK.due("sheet(4, 0, -1): BAD comes ahead of SIZE", x.sheet(4, 0, -1), -2);
        CHECK.due("no FINDING yet", x.count(8), 0);
        CHECK.due("sheet(3, 0, -1)", x.sheet(3, 0, -1), -15);
        CHECK.due("sheet(3, 0, least)", x.sheet(3, 0, LEAST), -15);
        CHECK.due("count(8)", x.count(8), 5);
        CHECK.due("it is what it was", x.lose(3), 60);
    }

    private static void promise22Lose() {
        ReadFromRight x = new ReadFromRight();
        CHECK.due("lose(0)", x.lose(0), -11);
        CHECK.due("lose(-1)", x.lose(-1), -2);
        CHECK.due("lose(4)", x.lose(4), -2);
        Check.fill(x, 0, 1, 5, 6);
        CHECK.due("lose(0)", x.lose(0), 2);
        CHECK.due("lose(0) again", x.lose(0), -11);
        x.sheet(0, 1, 3);
        items("what was LOST does not come back", x, 0, 1, 0, 0, 0);
        x.sheet(1, 0, 0);
        CHECK.due("lose(1) of an empty one", x.lose(1), 0);
    }

    private static void promise23Lay() {
        ReadFromRight x = new ReadFromRight();
        int[] values = {0, 1, -1, 127, 128, 255, 256, 32767, 32768, 65535, 65536, Integer.MAX_VALUE, LEAST + 1};
        int[] bytes = {0, 1, -1, 127, -128, -1, 0, -1, 0, -1, 0, -1, 1};
        int[] shorts = {0, 1, -1, 127, 128, 255, 256, 32767, -32768, -1, 0, -1, 1};
        int[][] due = {bytes, shorts, values};
        for (int form = 0; form < 3; form++) {
            x.sheet(form, form, values.length);
            for (int i = 0; i < values.length; i++) {
                CHECK.due("lay(" + form + ", " + form + ", " + i + ", .)", x.lay(form, form, i, values[i]), 1);
            }
            items("laid", x, form, form, due[form]);
        }
    }

    private static void promise23LayRefused() {
        ReadFromRight x = new ReadFromRight();
        CHECK.due("lay(4, 0, 0, 1)", x.lay(4, 0, 0, 1), -2);
        CHECK.due("lay(-1, 0, 0, 1)", x.lay(-1, 0, 0, 1), -2);
        CHECK.due("lay(0, 3, 0, 1): BAD comes ahead of NULL", x.lay(0, 3, 0, 1), -2);
        CHECK.due("lay(0, -1, 0, 1)", x.lay(0, -1, 0, 1), -2);
        CHECK.due("lay(0, 0, 0, 1)", x.lay(0, 0, 0, 1), -11);
        Check.fill(x, 0, 1, 5, 6);
        CHECK.due("lay(0, 0, 2, 1): CAST comes ahead of INDEX", x.lay(0, 0, 2, 1), -13);
        CHECK.due("lay(0, 2, 0, 1)", x.lay(0, 2, 0, 1), -13);
        CHECK.due("count(8)", x.count(8), 3);
        CHECK.due("lay(0, 1, 2, 1)", x.lay(0, 1, 2, 1), -12);
        CHECK.due("lay(0, 1, -1, 1)", x.lay(0, 1, -1, 1), -12);
        CHECK.due("lay(0, 1, most, 1)", x.lay(0, 1, Integer.MAX_VALUE, 1), -12);
        CHECK.due("count(8)", x.count(8), 2);
        items("refusals change nothing", x, 0, 1, 5, 6);
    }

    private static void promise24Get() {
        ReadFromRight x = new ReadFromRight();
        CHECK.due("get(4, 0, 0)", x.get(4, 0, 0), LEAST);
        CHECK.due("get(-1, 0, 0)", x.get(-1, 0, 0), LEAST);
        CHECK.due("get(0, 3, 0)", x.get(0, 3, 0), LEAST);
        CHECK.due("BAD is no FINDING", x.count(8), 0);
        CHECK.due("get(0, 0, 0)", x.get(0, 0, 0), LEAST);
        CHECK.due("count(8)", x.count(8), 1);
        Check.fill(x, 0, 2, 5, LEAST);
        CHECK.due("get(0, 2, 0)", x.get(0, 2, 0), 5);
        CHECK.due("get(0, 2, 1), laid so", x.get(0, 2, 1), LEAST);
        CHECK.due("an answer is no FINDING", x.count(8), 1);
        CHECK.due("get(0, 1, 9)", x.get(0, 1, 9), LEAST);
        CHECK.due("count(8)", x.count(8), 3);
        CHECK.due("get(0, 2, 2)", x.get(0, 2, 2), LEAST);
        CHECK.due("count(8)", x.count(8), 2);
        CHECK.due("get(0, 2, -1)", x.get(0, 2, -1), LEAST);
    }

    private static void promise25Copy() {
        ReadFromRight x = new ReadFromRight();
        Check.fill(x, 0, 1, 1, 2, 3, 4, 5);
        CHECK.due("copy(0, 0, 0, 1, 4)", x.copy(0, 0, 0, 1, 4), 1);
        items("upwards, as they were", x, 0, 1, 1, 1, 2, 3, 4);
        CHECK.due("copy(0, 2, 0, 0, 3)", x.copy(0, 2, 0, 0, 3), 1);
        items("downwards, as they were", x, 0, 1, 2, 3, 4, 3, 4);
        Check.fill(x, 1, 1, 9, 9, 9);
        CHECK.due("copy(0, 1, 1, 1, 2)", x.copy(0, 1, 1, 1, 2), 1);
        items("to another", x, 1, 1, 9, 3, 4);
        CHECK.due("copy(0, 5, 1, 3, 0): nothing at the ends", x.copy(0, 5, 1, 3, 0), 1);
        items("the first is as it was", x, 0, 1, 2, 3, 4, 3, 4);
        x.lay(0, 1, 0, 77);
        items("rows are not shared", x, 1, 1, 9, 3, 4);
    }

    private static void promise25CopyRefused() {
        ReadFromRight x = new ReadFromRight();
        Check.fill(x, 0, 1, 1, 2, 3);
        Check.fill(x, 1, 2, 7, 8);
        Check.fill(x, 2, 1, 5, 6);
        CHECK.due("copy(4, 0, 0, 0, 1)", x.copy(4, 0, 0, 0, 1), -2);
        CHECK.due("copy(0, 0, -1, 0, 1)", x.copy(0, 0, -1, 0, 1), -2);
        CHECK.due("copy(3, 0, 4, 0, 1): BAD comes ahead of NULL", x.copy(3, 0, 4, 0, 1), -2);
        CHECK.due("copy(3, 0, 0, 0, 1)", x.copy(3, 0, 0, 0, 1), -11);
        CHECK.due("copy(0, 0, 3, 0, 1)", x.copy(0, 0, 3, 0, 1), -11);
        CHECK.due("copy(0, 9, 3, 9, -1): NULL comes first", x.copy(0, 9, 3, 9, -1), -11);
        CHECK.due("copy(0, 9, 1, 0, 1): STORE comes ahead of INDEX", x.copy(0, 9, 1, 0, 1), -14);
        CHECK.due("copy(0, 0, 1, 0, 0): even of nothing", x.copy(0, 0, 1, 0, 0), -14);
        CHECK.due("count(8)", x.count(8), 4);
        int most = Integer.MAX_VALUE;
        int[][] bad = {{-1, 0, 1}, {0, -1, 1}, {0, 0, -1}, {3, 0, 1}, {2, 0, 2}, {0, 2, 1}, {0, 1, 2}, {0, 0, 3},
            {4, 0, 0}, {0, 3, 0}, {most, 0, most}, {1, 1, most}, {most, most, 0}, {LEAST, LEAST, LEAST}};
        for (int[] one : bad) {
            CHECK.due("copy(0, " + one[0] + ", 2, " + one[1] + ", " + one[2] + ")",
                x.copy(0, one[0], 2, one[1], one[2]), -12);
        }
        CHECK.due("count(8)", x.count(8), 2);
        items("refusals change nothing", x, 2, 1, 5, 6);
    }

    private static void promise26Write() {
        ReadFromRight x = new ReadFromRight();
        CHECK.due("write(-1, 0)", x.write(-1, 0), -2);
        CHECK.due("write(10000, 0): BAD comes ahead of NULL", x.write(10000, 0), -2);
        CHECK.due("write(1, 4)", x.write(1, 4), -2);
        CHECK.due("write(1, -1)", x.write(1, -1), -2);
        CHECK.due("write(1, 0)", x.write(1, 0), -11);
        Check.fill(x, 0, 0, 7, 7, 7, 7, 7);
        CHECK.due("write(120, 0)", x.write(120, 0), 3);
        items("the others stay", x, 0, 0, 1, 2, 0, 7, 7);
        CHECK.due("write(0, 0)", x.write(0, 0), 0);
        items("none of 0", x, 0, 0, 1, 2, 0, 7, 7);
        x.sheet(1, 2, 2);
        CHECK.due("write(9876, 1)", x.write(9876, 1), 2);
        items("the highest first", x, 1, 2, 9, 8);
        x.set(0, 36);
        x.sheet(2, 1, 4);
        CHECK.due("to 36: write(9999, 2)", x.write(9999, 2), 3);
        items("to 36: 7 25 27", x, 2, 1, 7, 25, 27, 0);
        x.set(0, 2);
        x.sheet(3, 0, 60);
        CHECK.due("to 2: write(9999, 3)", x.write(9999, 3), 14);
        CHECK.due("to 2: the highest", x.get(3, 0, 0), 1);
        CHECK.due("to 2: the fourth", x.get(3, 0, 3), 1);
        CHECK.due("to 2: the lowest", x.get(3, 0, 13), 1);
        x.sheet(3, 0, 0);
        CHECK.due("no items", x.write(9999, 3), 0);
    }

    private static void promise27Count() {
        ReadFromRight x = Check.withGoods("12w;9t;109w");
        x.set(0, 7);
        x.set(1, 1);
        x.set(2, 42);
        x.set(3, 3);
        int[] due = {3, 11, 2, 130, 7, 1, 42, 3, 0};
        for (int what = 0; what < due.length; what++) {
            CHECK.due("count(" + what + ")", x.count(what), due[what]);
        }
        CHECK.due("count(-1)", x.count(-1), -2);
        CHECK.due("count(9)", x.count(9), -2);
        CHECK.due("count(most)", x.count(Integer.MAX_VALUE), -2);
        x.lose(0);
        CHECK.due("a NULL: count(8)", x.count(8), 1);
        x.sheet(0, 0, -5);
        CHECK.due("a SIZE: count(8)", x.count(8), 5);
        x.sheet(0, 0, 99);
        CHECK.due("a BAD one is no FINDING", x.count(8), 5);
    }
}
