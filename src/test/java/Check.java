/** Counts answers that are not as due, and ends a test with exit code 1 if there was one. */
final class Check {
    private int wrong = 0;
    private int made = 0;

    void due(String call, long got, long want) {
        made++;
        if (got != want) {
            wrong++;
            System.out.println(call + " answered " + got + ", due is " + want);
        }
    }

    void isTrue(String what, boolean holds) {
        made++;
        if (!holds) {
            wrong++;
            System.out.println("not so: " + what);
        }
    }

    void end() {
        System.out.println(made + " checks, " + wrong + " wrong");
        if (wrong != 0 || made == 0) {
            System.exit(1);
        }
    }

    static void typeAll(ReadFromRight x, String text) {
        for (int i = 0; i < text.length(); i++) {
            x.type(text.charAt(i));
        }
    }

    static ReadFromRight withGoods(String text) {
        ReadFromRight x = new ReadFromRight();
        typeAll(x, text);
        return x;
    }

    /** A SHEET of a FORM with just these items. */
    static void fill(ReadFromRight x, int s, int form, int... items) {
        x.sheet(s, form, items.length);
        for (int i = 0; i < items.length; i++) {
            x.lay(s, form, i, items[i]);
        }
    }
}
