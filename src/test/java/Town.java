import java.util.ArrayList;
import java.util.LinkedHashMap;
import java.util.List;
import java.util.Map;
import java.util.function.Supplier;

/** Objects in several states, made anew each time, and all that can be asked of one but count() 8. */
final class Town {
    /** Above the items of all SHEETS of these towns but one, whose last item is asked for by its place. */
    private static final int ITEMS = 10;
    private static final int LAST = 59;

    private Town() {
    }

    /** Each state in which a refusal that needs no state of its own is tried. */
    static Map<String, Supplier<ReadFromRight>> all() {
        Map<String, Supplier<ReadFromRight>> towns = new LinkedHashMap<>();
        towns.put("new", ReadFromRight::new);
        towns.put("busy", Town::busy);
        towns.put("eight", Town::eight);
        towns.put("full", Town::full);
        return towns;
    }

    /** Three GOODS, another law; SHEETS of all FORMS and one that is LOST; the latest FINDING is a SIZE. */
    static ReadFromRight busy() {
        ReadFromRight x = Check.withGoods("12w;9t;109w");
        x.set(0, 7);
        x.set(1, 1);
        x.set(2, 42);
        x.set(3, 3);
        for (int good = 0; good < 8; good++) {
            x.partner(good, (good + 1) % 4);
        }
        Check.fill(x, 0, 0, 3, 1, 2);
        Check.fill(x, 1, 1, 300, -5);
        Check.fill(x, 2, 2, 70000, 2, -1, 4);
        x.sheet(3, 0, -1);
        return x;
    }

    /** Eight GOODS, the longest text that is well; SHEETS full and empty; the latest FINDING is a NULL. */
    static ReadFromRight eight() {
        ReadFromRight x = Check.withGoods("999w;999t;999w;999t;999w;999t;999w;999t");
        x.set(3, 4);
        x.partner(7, 3);
        x.lose(0);
        x.sheet(0, 2, 60);
        x.lay(0, 2, LAST, 9);
        x.sheet(1, 2, 0);
        x.sheet(2, 0, 0);
        x.sheet(3, 1, 1);
        x.lay(3, 1, 0, 1);
        return x;
    }

    /** As many bytes as there may be, and so with a FAULT; the latest FINDING is an INDEX. */
    static ReadFromRight full() {
        ReadFromRight x = Check.withGoods("12w;9w;");
        for (int have = 7; have < 50; have++) {
            x.type('t');
        }
        x.set(0, 36);
        x.partner(0, 2);
        x.sheet(1, 1, 2);
        x.lay(1, 1, 2, 8);
        return x;
    }

    /** To be asked once, and last: SHEETS are LOST by it. */
    static List<Long> whole(ReadFromRight x) {
        List<Long> answers = new ArrayList<>();
        for (int what = 0; what <= 7; what++) {
            answers.add((long) x.count(what));
        }
        answers.add((long) x.fault());
        answers.add(x.digest());
        for (int good = 0; good < 8; good++) {
            for (int what = 0; what <= 2; what++) {
                answers.add((long) x.good(good, what));
            }
            answers.add((long) x.partner(good, 0));
        }
        for (int s = 0; s < 4; s++) {
            for (int form = 0; form < 3; form++) {
                for (int i = 0; i < ITEMS; i++) {
                    answers.add((long) x.get(s, form, i));
                }
                answers.add((long) x.get(s, form, LAST));
            }
            answers.add((long) x.lose(s));
        }
        answers.add((long) x.type('w'));
        answers.add((long) x.fault());
        answers.add((long) x.wipe());
        return answers;
    }
}
