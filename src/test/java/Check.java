import java.util.function.Supplier;
import java.util.function.ToLongFunction;

/** Counts answers that are not as due, and ends a test with exit code 1 if there was one. */
final class Check {
    private int wrong = 0;
    private int made = 0;

    void due(String call, long got, long want) {
        made++;
        if (got != want) {
            wrong++;
            System.out.println(call + " answered " + got + ", due is " + want);
        }
    }

    void isTrue(String what, boolean holds) {
        made++;
        if (!holds) {
            wrong++;
            System.out.println("not so: " + what);
        }
    }

    /**
     * A refused call answers as due, and changes nothing, as told by a twin that is not called so; a FINDING (0: it is
     * none) changes count() 8.
     */
    void refused(String call, Supplier<ReadFromRight> town, ToLongFunction<ReadFromRight> act, long want, int finding) {
        ReadFromRight x = town.get();
        ReadFromRight twin = town.get();
        due(call, act.applyAsLong(x), want);
        int before = twin.count(8);
        due(call + ": count(8) behind it", x.count(8), finding == 0 ? before : finding);
        isTrue(call + " changes nothing", Town.whole(x).equals(Town.whole(twin)));
    }

    void end() {
        System.out.println(made + " checks, " + wrong + " wrong");
        if (wrong != 0 || made == 0) {
            System.exit(1);
        }
    }

    static void typeAll(ReadFromRight x, String text) {
        for (int i = 0; i < text.length(); i++) {
            x.type(text.charAt(i));
        }
    }

    static ReadFromRight withGoods(String text) {
        ReadFromRight x = new ReadFromRight();
        typeAll(x, text);
        return x;
    }

    /** A SHEET of a FORM with just these items. */
    static void fill(ReadFromRight x, int s, int form, int... items) {
        x.sheet(s, form, items.length);
        for (int i = 0; i < items.length; i++) {
            x.lay(s, form, i, items[i]);
        }
    }
}
