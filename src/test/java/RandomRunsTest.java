import java.util.Random;

/** Runs of calls on fresh objects, with good and bad arguments, held against the plain model; the seed is told. */
public final class RandomRunsTest {
    private static final int RUNS = 500;
    /** Then all items are asked for, of four full SHEETS perhaps: an object is used for at most 512 calls. */
    private static final int CALLS = 240;
    private static final int[] EDGES = {Integer.MIN_VALUE, -100, -2, -1, 4, 8, 61, 256, 1023, 10000, Integer.MAX_VALUE};

    private final Random random;
    private final Check check;
    private final String run;
    private final ReadFromRight x = new ReadFromRight();
    private final PlainModel m = new PlainModel();
    private int calls = 0;

    private RandomRunsTest(int seed, Check check) {
        random = new Random(seed);
        run = "seed " + seed + ": ";
        this.check = check;
    }

    public static void main(String[] args) {
        Check check = new Check();
        for (int seed = 0; seed < RUNS; seed++) {
            RandomRunsTest one = new RandomRunsTest(seed, check);
            one.typeGoods();
            while (one.calls < CALLS) {
                one.callOne();
            }
            one.compareAll();
            check.isTrue(one.run + "at most 512 calls, not " + one.calls, one.calls <= 512);
        }
        check.end();
    }

    /** Mostly one that may be told, now and then an edge. */
    private int pick(int least, int most) {
        int kind = random.nextInt(14);
        if (kind == 0) {
            return EDGES[random.nextInt(EDGES.length)];
        }
        if (kind == 1) {
            return random.nextBoolean() ? least - 1 : most + 1;
        }
        if (kind == 2) {
            return random.nextBoolean() ? least : most;
        }
        return least + random.nextInt(most - least + 1);
    }

    private void typeGoods() {
        int many = random.nextInt(9);
        StringBuilder text = new StringBuilder();
        for (int g = 0; g < many; g++) {
            text.append(g > 0 ? ";" : "").append(1 + random.nextInt(random.nextBoolean() ? 30 : 999));
            text.append(random.nextInt(3) == 0 ? 'w' : 't');
        }
        for (int i = 0; i < text.length(); i++) {
            typeOne(text.charAt(i));
        }
    }

    private void typeOne(int b) {
        due("type(" + b + ")", x.type(b), m.type(b));
        due("fault()", x.fault(), m.fault());
    }

    private void due(String call, long got, long want) {
        calls++;
        check.due(run + call, got, want);
    }

    private void callOne() {
        switch (random.nextInt(9)) {
            case 0:
                callGoods();
                break;
            case 1:
                callLaw();
                break;
            case 2:
            case 3:
                callPaid();
                break;
            case 4:
                callRoundsAndFigures();
                break;
            case 5:
                callRentsAndPartners();
                break;
            case 6:
                callSmudgesAndTurns();
                break;
            default:
                callSheets();
                break;
        }
    }

    private void callGoods() {
        int kind = random.nextInt(30);
        if (kind == 0) {
            due("wipe()", x.wipe(), m.wipe());
            typeGoods();
        } else if (kind < 3) {
            String some = "0123456789wt;;wtx";
            typeOne(random.nextInt(5) == 0 ? pick(0, 255) : some.charAt(random.nextInt(some.length())));
        } else {
            int good = pick(0, 7);
            int what = pick(0, 2);
            due("good(" + good + ", " + what + ")", x.good(good, what), m.good(good, what));
        }
    }

    private void callLaw() {
        int what = pick(0, 3);
        int[] most = {36, 1, 99, 4};
        int v = pick(what == 0 ? 2 : what == 3 ? 1 : 0, what >= 0 && what <= 3 ? most[what] : 9);
        due("set(" + what + ", " + v + ")", x.set(what, v), m.set(what, v));
        int good = pick(0, 7);
        int p = pick(0, 3);
        due("partner(" + good + ", " + p + ")", x.partner(good, p), m.partner(good, p));
    }

    private void callPaid() {
        int n = pick(0, 9999);
        due("paid(" + n + ")", x.paid(n), m.paid(n));
        due("added(" + n + ")", x.added(n), m.added(n));
        int bits = pick(0, Math.max(1, (1 << m.count(0)) - 1));
        int what = pick(0, 1);
        due("bill(" + bits + ", " + what + ")", x.bill(bits, what), m.bill(bits, what));
        int many = pick(1, 8);
        due("proof(" + many + ", " + what + ")", x.proof(many, what), m.proof(many, what));
        int good = pick(0, 7);
        int d = random.nextBoolean() ? pick(0, 999) : pick(0, 60);
        if (random.nextInt(3) == 0) {
            due("raised(" + good + ", " + d + ")", x.raised(good, d), m.raised(good, d));
        }
        // The model's way of trying is too slow for all of the greatest shops.
        boolean small = Math.pow(m.count(7) + 1, m.count(0)) < 20000;
        if (small || random.nextInt(40) == 0) {
            int which = pick(0, 3);
            due("bought(" + which + ")", x.bought(which), m.ready().bought(which));
        }
    }

    private void callRoundsAndFigures() {
        int purse = pick(0, 9999);
        int n = random.nextBoolean() ? pick(0, 9999) : pick(0, 99);
        for (int what = -1; what <= 3; what++) {
            due("rounds(" + purse + ", " + n + ", " + what + ")", x.rounds(purse, n, what), m.rounds(purse, n, what));
        }
        int many = pick(1, 3);
        int what = pick(0, 3);
        if (many < 3 || random.nextInt(4) == 0) {
            due("figures(" + many + ", " + what + ")", x.figures(many, what), m.figures(many, what));
        }
    }

    private void callRentsAndPartners() {
        int rent = pick(0, 120);
        int months = pick(1, 6);
        int end = pick(0, 1);
        due("rent(" + rent + ", " + months + ", " + end + ")", x.rent(rent, months, end), m.rent(rent, months, end));
        int partner = pick(0, 3);
        due("share(" + partner + ", 0)", x.share(partner, 0), m.share(partner, 0));
        due("share(" + partner + ", 1)", x.share(partner, 1), m.share(partner, 1));
        due("share(" + partner + ", " + end + ")", x.share(partner, end), m.share(partner, end));
        int s = pick(0, 3);
        due("read(" + s + ")", x.read(s), m.read(s));
    }

    private void callSmudgesAndTurns() {
        int s = pick(0, 3);
        int what = pick(0, 1);
        if (random.nextBoolean()) {
            smudgeSomeBill();
            s = 0;
        }
        due("smudged(" + s + ", " + what + ")", x.smudged(s, what), m.smudged(s, what));
        int n = pick(0, 200);
        int amounts = pick(1, 511) << 1;
        int end = pick(1, 200);
        String call = "game(" + n + ", " + amounts + ", " + end + ", " + what + ")";
        due(call, x.game(n, amounts, end, what), m.game(n, amounts, end, what));
    }

    private void smudgeSomeBill() {
        int of = 1 + random.nextInt(Math.max(1, (1 << m.count(0)) - 1));
        int paid = Math.max(0, Math.min(9999, m.bill(of, 1)));
        int many = Integer.toString(paid, m.count(4)).length();
        due("sheet", x.sheet(0, 2, many), m.sheet(0, 2, many));
        due("write", x.write(paid, 0), m.write(paid, 0));
        for (int i = 0; i < many; i++) {
            if (random.nextInt(3) > 0) {
                due("lay", x.lay(0, 2, i, -1), m.lay(0, 2, i, -1));
            }
        }
    }

    private void callSheets() {
        int s = pick(0, 3);
        int form = pick(0, 2);
        int i = random.nextBoolean() ? pick(0, 8) : pick(0, 60);
        int v = random.nextInt(3) == 0 ? random.nextInt() : pick(-1, 9);
        switch (random.nextInt(12)) {
            case 0:
            case 1:
                int n = random.nextBoolean() ? pick(0, 5) : pick(0, 60);
                due("sheet(" + s + ", " + form + ", " + n + ")", x.sheet(s, form, n), m.sheet(s, form, n));
                break;
            case 2:
                due("lose(" + s + ")", x.lose(s), m.lose(s));
                break;
            case 3:
            case 4:
            case 5:
                due("lay(" + s + ", " + form + ", " + i + ", " + v + ")", x.lay(s, form, i, v), m.lay(s, form, i, v));
                break;
            case 6:
            case 7:
                due("get(" + s + ", " + form + ", " + i + ")", x.get(s, form, i), m.get(s, form, i));
                break;
            case 8:
            case 9:
                int t = random.nextBoolean() ? s : pick(0, 3);
                int j = pick(0, 8);
                int k = pick(0, 5);
                due("copy(" + s + ", " + i + ", " + t + ", " + j + ", " + k + ")",
                    x.copy(s, i, t, j, k), m.copy(s, i, t, j, k));
                break;
            default:
                int number = pick(0, 9999);
                due("write(" + number + ", " + s + ")", x.write(number, s), m.write(number, s));
                break;
        }
        int what = pick(0, 8);
        due("count(" + what + ")", x.count(what), m.count(what));
    }

    private void compareAll() {
        due("count(8)", x.count(8), m.count(8));
        for (int s = 0; s < 4; s++) {
            for (int i = 0; i < m.size(s); i++) {
                int form = m.form(s);
                due("get(" + s + ", " + form + ", " + i + ")", x.get(s, form, i), m.get(s, form, i));
            }
            due("lose(" + s + ")", x.lose(s), m.lose(s));
        }
        if (Math.pow(m.count(7) + 1, m.count(0)) < 100000) {
            due("digest()", x.digest(), m.digest());
        }
    }
}
