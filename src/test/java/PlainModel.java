import java.util.ArrayList;
import java.util.List;
import java.util.regex.Matcher;
import java.util.regex.Pattern;

/**
 * The document's words once more, by trying everything out: slow, and written without a look at the program, so that
 * random runs can be held against it.
 */
final class PlainModel {
    private String text = "";
    private int base = 10;
    private int noughts = 0;
    private int fee = 0;
    private int bills = 1;
    private final int[] owner = new int[8];
    private final List<List<Integer>> sheets = new ArrayList<>();
    private final int[] forms = new int[4];
    private int latest = 0;
    private boolean[] wantedNow = new boolean[0];

    PlainModel() {
        for (int s = 0; s < 4; s++) {
            sheets.add(null);
        }
    }

    int type(int b) {
        if (b < 0 || b > 255) {
            return -2;
        }
        if (text.length() == 50) {
            return -4;
        }
        text += (char) b;
        return text.length();
    }

    int wipe() {
        int had = text.length();
        text = "";
        return had;
    }

    /** The least place with which something is wrong, piece by piece. */
    int fault() {
        if (text.isEmpty()) {
            return -1;
        }
        int start = 0;
        String[] pieces = text.split(";", -1);
        for (int p = 0; p < pieces.length; p++) {
            String piece = pieces[p];
            boolean last = p == pieces.length - 1;
            if (p == 8) {
                return start;
            }
            Matcher figures = Pattern.compile("^[0-9]{0,3}").matcher(piece);
            figures.find();
            String price = figures.group();
            if (price.isEmpty() || price.matches("0+")) {
                return start;
            }
            int at = price.length();
            if (at == piece.length() || "wt".indexOf(piece.charAt(at)) < 0) {
                return start + at;
            }
            if (piece.length() > at + 1) {
                return start + at + 1;
            }
            if (!last) {
                start += piece.length() + 1;
            }
        }
        return -1;
    }

    private String[] pieces() {
        return text.isEmpty() || fault() != -1 ? new String[0] : text.split(";");
    }

    private int[] prices() {
        String[] pieces = pieces();
        int[] prices = new int[pieces.length];
        for (int g = 0; g < prices.length; g++) {
            prices[g] = Integer.parseInt(pieces[g].substring(0, pieces[g].length() - 1));
        }
        return prices;
    }

    private boolean wants(int good) {
        return pieces()[good].endsWith("w");
    }

    int good(int good, int what) {
        int[] prices = prices();
        if (good < 0 || good >= prices.length || what < 0 || what > 2) {
            return -2;
        }
        return what == 0 ? prices[good] : what == 1 ? (wants(good) ? 1 : 0) : owner[good];
    }

    int set(int what, int v) {
        int was;
        if (what == 0 && v >= 2 && v <= 36) {
            was = base;
            base = v;
        } else if (what == 1 && (v == 0 || v == 1)) {
            was = noughts;
            noughts = v;
        } else if (what == 2 && v >= 0 && v <= 99) {
            was = fee;
            fee = v;
        } else if (what == 3 && v >= 1 && v <= 4) {
            was = bills;
            bills = v;
        } else {
            was = -2;
        }
        return was;
    }

    int partner(int good, int v) {
        if (good < 0 || good > 7 || v < 0 || v > 3) {
            return -2;
        }
        int was = owner[good];
        owner[good] = v;
        return was;
    }

    int read(int s) {
        if (s < 0 || s > 3) {
            return -2;
        }
        if (sheets.get(s) == null) {
            return find(1);
        }
        int n = 0;
        for (int item : sheets.get(s)) {
            if (n == 8 || item < 0 || item > 3) {
                break;
            }
            owner[n++] = item;
        }
        return n;
    }

    private int from(int n) {
        String figures = Integer.toString(n, base);
        String kept = figures.replaceAll("0+$", "");
        if (kept.isEmpty()) {
            return 0;
        }
        String turned = new StringBuilder(kept).reverse().toString();
        return Integer.parseInt(noughts == 1 ? turned + figures.substring(kept.length()) : turned, base);
    }

    int paid(int n) {
        return n < 0 || n > 9999 ? -2 : from(n);
    }

    private static int sum(int[] prices, int bits) {
        int sum = 0;
        for (int g = 0; g < prices.length; g++) {
            sum += (bits >> g & 1) == 1 ? prices[g] : 0;
        }
        return sum;
    }

    int bill(int goods, int what) {
        int[] prices = prices();
        if (goods <= 0 || goods >> prices.length != 0 || what < 0 || what > 1) {
            return -2;
        }
        int sum = sum(prices, goods);
        return what == 0 ? sum : from(sum);
    }

    /** Each of the GOODS stays in the shop (0) or is put on one of the bills (1 on). */
    int bought(int what) {
        if (what < 0 || what > 3) {
            return -2;
        }
        int[] prices = prices();
        long best = Long.MAX_VALUE;
        int most = -1;
        long ways = (long) Math.pow(bills + 1, prices.length);
        for (long way = 0; way < ways; way++) {
            int[] sums = new int[bills + 1];
            int bits = 0;
            boolean all = true;
            long rest = way;
            for (int g = 0; g < prices.length; g++) {
                int on = (int) (rest % (bills + 1));
                rest /= bills + 1;
                sums[on] += prices[g];
                bits |= on > 0 ? 1 << g : 0;
                all &= on > 0 || !wantedNow[g];
            }
            if (!all) {
                continue;
            }
            int together = 0;
            int used = 0;
            for (int on = 1; on <= bills; on++) {
                if (sums[on] > 0) {
                    together += from(sums[on]) + fee;
                    used++;
                }
            }
            best = Math.min(best, together * 10000L + used * 1000L + bits);
            most = Math.max(most, together);
        }
        return (int) (what == 0 ? best / 10000 : what == 1 ? best / 1000 % 10 : what == 2 ? best % 1000 : most);
    }

    /** To be called ahead of bought(): which are wanted is looked up once, as there are many ways to buy. */
    PlainModel ready() {
        wantedNow = new boolean[pieces().length];
        for (int g = 0; g < wantedNow.length; g++) {
            wantedNow[g] = wants(g);
        }
        return this;
    }

    int added(int n) {
        if (n < 0 || n > 9999) {
            return -2;
        }
        int least = Integer.MAX_VALUE;
        for (int more = 99; more >= 0; more--) {
            least = Math.min(least, from(n + more));
        }
        int more = 0;
        while (from(n + more) != least) {
            more++;
        }
        return more;
    }

    int proof(int many, int what) {
        if (many < 1 || many > 8 || what < 0 || what > 1) {
            return -100002;
        }
        int[] prices = prices();
        if (prices.length == 0) {
            return -100003;
        }
        int most = Integer.MIN_VALUE;
        int which = 0;
        for (int bits = (1 << prices.length) - 1; bits > 0; bits--) {
            int gain = sum(prices, bits) - from(sum(prices, bits));
            if (Integer.bitCount(bits) <= many && gain >= most) {
                most = gain;
                which = bits;
            }
        }
        return what == 0 ? most : which;
    }

    int raised(int good, int d) {
        int[] prices = prices();
        if (good < 0 || good >= prices.length || d < 0 || d > 999) {
            return -2;
        }
        for (int more = 0; more < 100; more++, prices[good]++) {
            boolean well = true;
            for (int bits = 1; bits < 1 << prices.length; bits++) {
                well &= sum(prices, bits) - from(sum(prices, bits)) <= d;
            }
            if (well) {
                return more;
            }
        }
        return -1;
    }

    int rounds(int purse, int n, int what) {
        if (purse < 0 || purse > 9999 || n < 0 || n > 9999 || what < 0 || what > 2) {
            return -2;
        }
        List<Integer> ahead = new ArrayList<>();
        int comesRound = -1;
        int now = purse;
        int many = 0;
        while (many < 200 && from(n) <= now) {
            ahead.add(now);
            now = from(now - from(n));
            many++;
            if (comesRound == -1 && ahead.contains(now)) {
                comesRound = many;
            }
        }
        return what == 0 ? many : what == 1 ? now : comesRound;
    }

    int figures(int many, int what) {
        if (many < 1 || many > 3 || what < 0 || what > 3) {
            return -2;
        }
        int[] counts = new int[3];
        int far = -1;
        int which = 0;
        for (int n = 1; Integer.toString(n, base).length() <= many; n++) {
            if (Integer.toString(n, base).length() == many) {
                counts[from(n) == n ? 0 : from(n) < n ? 1 : 2]++;
                if (Math.abs(from(n) - n) > far) {
                    far = Math.abs(from(n) - n);
                    which = n;
                }
            }
        }
        return what < 3 ? counts[what] : which;
    }

    int rent(int rent, int months, int end) {
        if (rent < 0 || rent > 120 || months < 1 || months > 6 || end < 0 || end > 1) {
            return -2;
        }
        return parted(rent, months, end, new Integer[rent + 1][months + 1]);
    }

    private int parted(int rent, int months, int end, Integer[][] known) {
        if (months == 1) {
            return from(rent);
        }
        if (known[rent][months] == null) {
            int best = end == 0 ? Integer.MAX_VALUE : Integer.MIN_VALUE;
            for (int part = 0; part <= rent; part++) {
                int all = from(part) + parted(rent - part, months - 1, end, known);
                best = end == 0 ? Math.min(best, all) : Math.max(best, all);
            }
            known[rent][months] = best;
        }
        return known[rent][months];
    }

    /** All 24 orders, one by one. */
    long share(int partner, int what) {
        if (partner < 0 || partner > 3 || what < 0 || what > 1) {
            return Long.MIN_VALUE + 2;
        }
        long all = 0;
        for (int order = 0; order < 256; order++) {
            int[] come = {order & 3, order >> 2 & 3, order >> 4 & 3, order >> 6 & 3};
            if ((1 << come[0] | 1 << come[1] | 1 << come[2] | 1 << come[3]) == 15) {
                int set = 0;
                for (int one : come) {
                    int before = paidBy(set);
                    set |= 1 << one;
                    all += one == partner ? paidBy(set) - before : 0;
                }
            }
        }
        long g = java.math.BigInteger.valueOf(all).gcd(java.math.BigInteger.valueOf(24)).longValue();
        return what == 0 ? all / g : 24 / g;
    }

    private int paidBy(int set) {
        int sum = 0;
        int[] prices = prices();
        for (int g = 0; g < prices.length; g++) {
            sum += (set >> owner[g] & 1) == 1 ? prices[g] : 0;
        }
        return from(sum);
    }

    int smudged(int s, int what) {
        if (s < 0 || s > 3 || what < 0 || what > 1) {
            return -2;
        }
        List<Integer> pattern = sheets.get(s);
        if (pattern == null) {
            return find(1);
        }
        int[] prices = prices();
        List<Integer> fitting = new ArrayList<>();
        for (int bits = 1; bits < 1 << prices.length; bits++) {
            String figures = Integer.toString(from(sum(prices, bits)), base);
            boolean fits = figures.length() == pattern.size();
            for (int i = 0; fits && i < figures.length(); i++) {
                fits = pattern.get(i) == -1 || pattern.get(i) == Character.digit(figures.charAt(i), base);
            }
            if (fits) {
                fitting.add(bits);
            }
        }
        return what == 0 ? fitting.size() : fitting.isEmpty() ? -1 : fitting.get(0);
    }

    int game(int n, int amounts, int end, int what) {
        if (n < 0 || n > 200 || amounts <= 0 || amounts > 1023 || (amounts & 1) == 1 || end < 1 || end > 200
                || what < 0 || what > 1) {
            return -2;
        }
        Integer[][] known = new Integer[end][2];
        int value = play(n, amounts, end, 0, known);
        if (what == 0) {
            return value;
        }
        for (int a = 1; n < end && a <= 9; a++) {
            if ((amounts >> a & 1) == 1 && play(n + a, amounts, end, 1, known) == value) {
                return a;
            }
        }
        return 0;
    }

    private int play(int n, int amounts, int end, int who, Integer[][] known) {
        if (n >= end) {
            return from(n);
        }
        if (known[n][who] == null) {
            int best = who == 0 ? Integer.MAX_VALUE : Integer.MIN_VALUE;
            for (int a = 1; a <= 9; a++) {
                if ((amounts >> a & 1) == 1) {
                    int then = play(n + a, amounts, end, 1 - who, known);
                    best = who == 0 ? Math.min(best, then) : Math.max(best, then);
                }
            }
            known[n][who] = best;
        }
        return known[n][who];
    }

    private int find(int finding) {
        latest = finding;
        return -10 - finding;
    }

    int sheet(int s, int form, int n) {
        if (s < 0 || s > 3 || form < 0 || form > 2 || n > 60) {
            return -2;
        }
        if (n < 0) {
            return find(5);
        }
        List<Integer> items = new ArrayList<>();
        for (int i = 0; i < n; i++) {
            items.add(0);
        }
        sheets.set(s, items);
        forms[s] = form;
        return n;
    }

    int lose(int s) {
        if (s < 0 || s > 3) {
            return -2;
        }
        if (sheets.get(s) == null) {
            return find(1);
        }
        return sheets.set(s, null).size();
    }

    /** For those who look into it only: no call of the face. */
    int size(int s) {
        return sheets.get(s) == null ? 0 : sheets.get(s).size();
    }

    int form(int s) {
        return forms[s];
    }

    private int lookAt(int s, int form, int i) {
        if (s < 0 || s > 3 || form < 0 || form > 2) {
            return -2;
        }
        if (sheets.get(s) == null) {
            return find(1);
        }
        if (forms[s] != form) {
            return find(3);
        }
        return i < 0 || i >= sheets.get(s).size() ? find(2) : 1;
    }

    int lay(int s, int form, int i, int v) {
        int seen = lookAt(s, form, i);
        if (seen == 1) {
            sheets.get(s).set(i, form == 0 ? (byte) v : form == 1 ? (short) v : v);
        }
        return seen;
    }

    int get(int s, int form, int i) {
        return lookAt(s, form, i) == 1 ? sheets.get(s).get(i) : Integer.MIN_VALUE;
    }

    int copy(int s, int i, int t, int j, int n) {
        if (s < 0 || s > 3 || t < 0 || t > 3) {
            return -2;
        }
        if (sheets.get(s) == null || sheets.get(t) == null) {
            return find(1);
        }
        if (forms[s] != forms[t]) {
            return find(4);
        }
        if (i < 0 || j < 0 || n < 0 || (long) i + n > sheets.get(s).size() || (long) j + n > sheets.get(t).size()) {
            return find(2);
        }
        List<Integer> run = new ArrayList<>(sheets.get(s).subList(i, i + n));
        for (int k = 0; k < n; k++) {
            sheets.get(t).set(j + k, run.get(k));
        }
        return 1;
    }

    int write(int n, int s) {
        if (n < 0 || n > 9999 || s < 0 || s > 3) {
            return -2;
        }
        if (sheets.get(s) == null) {
            return find(1);
        }
        String figures = n == 0 ? "" : Integer.toString(n, base);
        int i = 0;
        while (i < figures.length() && i < sheets.get(s).size()) {
            sheets.get(s).set(i, Character.digit(figures.charAt(i), base));
            i++;
        }
        return i;
    }

    int count(int what) {
        int[] prices = prices();
        int wanted = 0;
        for (int g = 0; g < prices.length; g++) {
            wanted += wants(g) ? 1 : 0;
        }
        int[] all = {prices.length, text.length(), wanted, sum(prices, -1), base, noughts, fee, bills, latest};
        return what < 0 || what > 8 ? -2 : all[what];
    }

    long digest() {
        List<Long> all = new ArrayList<>();
        for (int what = 0; what < 8; what++) {
            all.add((long) count(what));
        }
        all.add((long) fault());
        int[] prices = prices();
        for (int g = 0; g < prices.length; g++) {
            all.add((long) good(g, 0));
            all.add((long) good(g, 1));
            all.add((long) good(g, 2));
            all.add((long) paid(prices[g]));
            all.add((long) raised(g, 20));
        }
        ready();
        for (int what = 0; what < 4; what++) {
            all.add((long) bought(what));
        }
        all.add((long) added(120));
        all.add((long) proof(8, 0));
        all.add((long) proof(8, 1));
        for (int what = 0; what < 3; what++) {
            all.add((long) rounds(500, 21, what));
        }
        for (int many = 1; many < 4; many++) {
            for (int what = 0; what < 4; what++) {
                all.add((long) figures(many, what));
            }
        }
        all.add((long) rent(60, 3, 0));
        all.add((long) rent(60, 3, 1));
        for (int p = 0; p < 4; p++) {
            all.add(share(p, 0));
            all.add(share(p, 1));
        }
        all.add((long) game(5, 14, 31, 0));
        all.add((long) game(5, 14, 31, 1));
        long h = 17;
        for (long one : all) {
            h = 31 * h + one;
        }
        return h;
    }
}
