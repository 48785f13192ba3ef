import java.util.Arrays;

/**
 * A town in which a bill is reckoned like any other, and paid as it stands when it is read from the right.
 *
 * <p>The face tests what a call was given and refuses in the order of the document; the classes inside reckon, and
 * are only handed what has been tested. All rows are made with the object and used again: no call makes anything.
 */
public final class ReadFromRight {
    public static final int NONE = -1, BAD = -2, NOT = -3, FULL = -4;

    private static final int MOST_BYTES = 50;
    private static final int MOST_GOODS = 8;
    private static final int MOST_SETS = 1 << MOST_GOODS;
    private static final int MOST_PARTNERS = 4;
    private static final int MOST_NUMBER = 9999;
    private static final int MOST_ADDED = 99;
    private static final int MOST_RAISED = 99;
    private static final int MOST_ROUNDS = 200;
    private static final int MOST_RENT = 120;
    private static final int MOST_END = 200;
    private static final int MOST_AMOUNT = 9;
    private static final int ALL_AMOUNTS = 1022;
    private static final int MOST_SHEETS = 4;
    private static final int MOST_ITEMS = 60;
    /** An int has no more figures than this, even to base two. */
    private static final int MOST_FIGURES = 31;

    private static final int BASE = 0, NOUGHTS = 1, FEE = 2, BILLS = 3;
    private static final int[] LAW_LEAST = {2, 0, 0, 1};
    private static final int[] LAW_MOST = {36, 1, 99, 4};

    private static final int NO_FINDING = 0, NULL = 1, INDEX = 2, CAST = 3, STORE = 4, SIZE = 5;
    private static final int BYTES = 0, SHORTS = 1, INTS = 2;
    private static final int SMUDGE = -1;

    /** A refusal is told so far below where any number may be an answer. */
    private static final int ANY_NUMBER = -100000;
    private static final int LEAST_INT = -2147483648;
    private static final int MOST_INT = 2147483647;
    private static final long LEAST_LONG = -9223372036854775808L;

    private final Law law = new Law();
    private final Goods goods = new Goods();
    private final Till till = new Till(law, goods);
    private final Partners partners = new Partners(law, goods);
    private final Purse purses = new Purse(law);
    private final FigureCount figureCount = new FigureCount(law);
    private final Months months = new Months(law);
    private final Turns turns = new Turns(law);
    private final Sheet[] sheets = {new Sheet(), new Sheet(), new Sheet(), new Sheet()};
    private final int[] row = new int[MOST_FIGURES];
    private int latestFinding = NO_FINDING;

    public ReadFromRight() {
    }

    // ---- goods, law

    public int type(int b) {
        if (!within(b, 0, 255)) {
            return BAD;
        }
        if (goods.length() >= MOST_BYTES) {
            return FULL;
        }
        goods.append(b);
        till.forget();
        return goods.length();
    }

    public int wipe() {
        int had = goods.length();
        goods.clear();
        till.forget();
        return had;
    }

    public int fault() {
        return goods.faultPlace();
    }

    public int good(int good, int what) {
        if (!isGood(good)) {
            return BAD;
        }
        switch (what) {
            case 0:
                return goods.priceOf(good);
            case 1:
                return goods.isWanted(good) ? 1 : 0;
            case 2:
                return partners.ownerOf(good);
            default:
                return BAD;
        }
    }

    public int set(int what, int v) {
        if (!within(what, BASE, BILLS) || !within(v, LAW_LEAST[what], LAW_MOST[what])) {
            return BAD;
        }
        int was = law.valueOf(what);
        law.change(what, v);
        till.forget();
        figureCount.forget();
        return was;
    }

    public int partner(int good, int v) {
        if (!within(good, 0, MOST_GOODS - 1) || !isPartner(v)) {
            return BAD;
        }
        int was = partners.ownerOf(good);
        partners.give(good, v);
        return was;
    }

    public int read(int s) {
        if (!isSheet(s)) {
            return BAD;
        }
        Sheet sheet = sheets[s];
        if (sheet.isLost()) {
            return finding(NULL);
        }
        int most = Math.min(sheet.size(), MOST_GOODS);
        int taken = 0;
        while (taken < most && isPartner(sheet.itemAt(taken))) {
            partners.give(taken, sheet.itemAt(taken));
            taken++;
        }
        return taken;
    }

    // ---- what is paid

    public int paid(int n) {
        return isNumber(n) ? law.paidFor(n) : BAD;
    }

    public int bill(int goods, int what) {
        if (!within(goods, 1, this.goods.allBits())) {
            return BAD;
        }
        switch (what) {
            case 0:
                return till.sumOf(goods);
            case 1:
                return till.paidOf(goods);
            default:
                return BAD;
        }
    }

    public int bought(int what) {
        switch (what) {
            case 0:
                return till.leastPaid();
            case 1:
                return till.leastBills();
            case 2:
                return till.leastBits();
            case 3:
                return till.mostPaid();
            default:
                return BAD;
        }
    }

    public int added(int n) {
        if (!isNumber(n)) {
            return BAD;
        }
        int best = 0;
        int least = law.paidFor(n);
        for (int more = 1; more <= MOST_ADDED; more++) {
            int then = law.paidFor(n + more);
            if (then < least) {
                least = then;
                best = more;
            }
        }
        return best;
    }

    public int proof(int many, int what) {
        if (!within(many, 1, MOST_GOODS) || !within(what, 0, 1)) {
            return ANY_NUMBER + BAD;
        }
        if (goods.size() == 0) {
            return ANY_NUMBER + NOT;
        }
        int bits = till.greatestGain(many);
        return what == 0 ? till.gainOf(bits) : bits;
    }

    public int raised(int good, int d) {
        if (!isGood(good) || !within(d, 0, 999)) {
            return BAD;
        }
        return till.leastRaise(good, d);
    }

    // ---- rounds, figures

    public int rounds(int purse, int n, int what) {
        if (!isNumber(purse) || !isNumber(n) || !within(what, 0, 2)) {
            return BAD;
        }
        purses.payOn(purse, n);
        switch (what) {
            case 0:
                return purses.roundsPaid();
            case 1:
                return purses.contents();
            default:
                return purses.firstReturn();
        }
    }

    public int figures(int many, int what) {
        if (!within(many, 1, 3) || !within(what, 0, 3)) {
            return BAD;
        }
        return figureCount.answer(many, what);
    }

    // ---- rents, partners

    public int rent(int rent, int months, int end) {
        if (!within(rent, 0, MOST_RENT) || !within(months, 1, 6) || !within(end, 0, 1)) {
            return BAD;
        }
        return this.months.part(rent, months, end == 1);
    }

    public long share(int partner, int what) {
        if (!isPartner(partner) || !within(what, 0, 1)) {
            return LEAST_LONG - BAD;
        }
        long brought = partners.broughtInAllOrders(partner);
        int common = Partners.commonWithOrders(brought);
        return what == 0 ? brought / common : Partners.ORDERS / common;
    }

    // ---- smudges, turns

    public int smudged(int s, int what) {
        if (!isSheet(s) || !within(what, 0, 1)) {
            return BAD;
        }
        if (sheets[s].isLost()) {
            return finding(NULL);
        }
        int fitting = 0;
        int first = NONE;
        for (int bits = goods.allBits(); bits > 0; bits--) {
            int length = law.splitUp(till.paidOf(bits), row);
            if (sheets[s].fits(row, length)) {
                fitting++;
                first = bits;
            }
        }
        return what == 0 ? fitting : first;
    }

    public int game(int n, int amounts, int end, int what) {
        boolean told = within(n, 0, MOST_END) && within(end, 1, MOST_END) && within(what, 0, 1);
        if (!told || amounts == 0 || (amounts & ~ALL_AMOUNTS) != 0) {
            return BAD;
        }
        if (n >= end) {
            return what == 0 ? law.paidFor(n) : 0;
        }
        turns.playDownTo(n, amounts, end);
        return what == 0 ? turns.outcomeFrom(n) : turns.firstAmount(n, amounts);
    }

    // ---- sheets

    public int sheet(int s, int form, int n) {
        if (!isSheet(s) || !isForm(form) || n > MOST_ITEMS) {
            return BAD;
        }
        if (n < 0) {
            return finding(SIZE);
        }
        sheets[s].renew(form, n);
        return n;
    }

    public int lose(int s) {
        if (!isSheet(s)) {
            return BAD;
        }
        if (sheets[s].isLost()) {
            return finding(NULL);
        }
        int had = sheets[s].size();
        sheets[s].giveUp();
        return had;
    }

    public int lay(int s, int form, int i, int v) {
        if (!isSheet(s) || !isForm(form)) {
            return BAD;
        }
        int found = sheets[s].findingAt(form, i);
        if (found != NO_FINDING) {
            return finding(found);
        }
        sheets[s].put(i, v);
        return 1;
    }

    public int get(int s, int form, int i) {
        if (!isSheet(s) || !isForm(form)) {
            return LEAST_INT;
        }
        int found = sheets[s].findingAt(form, i);
        if (found != NO_FINDING) {
            finding(found);
            return LEAST_INT;
        }
        return sheets[s].itemAt(i);
    }

    public int copy(int s, int i, int t, int j, int n) {
        if (!isSheet(s) || !isSheet(t)) {
            return BAD;
        }
        Sheet from = sheets[s];
        Sheet to = sheets[t];
        if (from.isLost() || to.isLost()) {
            return finding(NULL);
        }
        if (!from.isLike(to)) {
            return finding(STORE);
        }
        if (!from.hasRun(i, n) || !to.hasRun(j, n)) {
            return finding(INDEX);
        }
        to.takeRun(from, i, j, n);
        return 1;
    }

    public int write(int n, int s) {
        if (!isNumber(n) || !isSheet(s)) {
            return BAD;
        }
        Sheet sheet = sheets[s];
        if (sheet.isLost()) {
            return finding(NULL);
        }
        int length = law.splitUp(n, row);
        int written = Math.min(length, sheet.size());
        for (int i = 0; i < written; i++) {
            sheet.put(i, row[length - 1 - i]);
        }
        return written;
    }

    public int count(int what) {
        switch (what) {
            case 0:
                return goods.size();
            case 1:
                return goods.length();
            case 2:
                return Integer.bitCount(goods.wantedBits());
            case 3:
                return till.sumOf(goods.allBits());
            case 4:
            case 5:
            case 6:
            case 7:
                return law.valueOf(what - 4);
            case 8:
                return latestFinding;
            default:
                return BAD;
        }
    }

    public long digest() {
        long h = 17;
        for (int what = 0; what <= 7; what++) {
            h = 31 * h + count(what);
        }
        h = 31 * h + fault();
        h = goodsInto(h);
        for (int what = 0; what <= 3; what++) {
            h = 31 * h + bought(what);
        }
        h = 31 * h + added(120);
        h = 31 * h + proof(8, 0);
        h = 31 * h + proof(8, 1);
        for (int what = 0; what <= 2; what++) {
            h = 31 * h + rounds(500, 21, what);
        }
        h = figuresInto(h);
        h = 31 * h + rent(60, 3, 0);
        h = 31 * h + rent(60, 3, 1);
        for (int partner = 0; partner < MOST_PARTNERS; partner++) {
            h = 31 * h + share(partner, 0);
            h = 31 * h + share(partner, 1);
        }
        h = 31 * h + game(5, 14, 31, 0);
        return 31 * h + game(5, 14, 31, 1);
    }

    private long goodsInto(long before) {
        long h = before;
        for (int good = 0; good < goods.size(); good++) {
            for (int what = 0; what <= 2; what++) {
                h = 31 * h + good(good, what);
            }
            h = 31 * h + paid(good(good, 0));
            h = 31 * h + raised(good, 20);
        }
        return h;
    }

    private long figuresInto(long before) {
        long h = before;
        for (int many = 1; many <= 3; many++) {
            for (int what = 0; what <= 3; what++) {
                h = 31 * h + figures(many, what);
            }
        }
        return h;
    }

    private int finding(int number) {
        latestFinding = number;
        return -10 - number;
    }

    private boolean isGood(int good) {
        return within(good, 0, goods.size() - 1);
    }

    private static boolean isPartner(int partner) {
        return within(partner, 0, MOST_PARTNERS - 1);
    }

    private static boolean isNumber(int n) {
        return within(n, 0, MOST_NUMBER);
    }

    private static boolean isSheet(int s) {
        return within(s, 0, MOST_SHEETS - 1);
    }

    private static boolean isForm(int form) {
        return within(form, BYTES, INTS);
    }

    private static boolean within(int v, int least, int most) {
        return v >= least && v <= most;
    }

    /** BASE, NOUGHTS, FEE and BILLS, and how a number is read by them. */
    private static final class Law {
        private final int[] values = {10, 0, 0, 1};

        int valueOf(int what) {
            return values[what];
        }

        void change(int what, int v) {
            values[what] = v;
        }

        int paidFor(int n) {
            int base = values[BASE];
            boolean stay = values[NOUGHTS] == 1;
            int reversed = 0;
            int shift = 1;
            int rest = n;
            for (int i = 0; i < MOST_FIGURES && rest > 0 && base > 1; i++) {
                reversed = reversed * base + rest % base;
                rest /= base;
                if (stay && reversed == 0) {
                    shift *= base;
                }
            }
            return reversed * shift;
        }

        /** Lays the figures of n into the row, the lowest first: how many there are (none of 0). */
        int splitUp(int n, int[] figures) {
            int base = values[BASE];
            int length = 0;
            int rest = n;
            while (length < figures.length && rest > 0 && base > 1) {
                figures[length] = rest % base;
                rest /= base;
                length++;
            }
            return length;
        }
    }

    /** The text, and the GOODS that it tells. */
    private static final class Goods {
        private final int[] bytes = new int[MOST_BYTES];
        private final int[] prices = new int[MOST_GOODS];
        private int used = 0;
        private int many = 0;
        private int wanted = 0;
        private int badPlace = NONE;

        int length() {
            return used;
        }

        int size() {
            return many;
        }

        int allBits() {
            return (1 << many) - 1;
        }

        int wantedBits() {
            return wanted;
        }

        int faultPlace() {
            return badPlace;
        }

        int priceOf(int good) {
            return prices[good];
        }

        boolean isWanted(int good) {
            return (wanted & 1 << good) != 0;
        }

        void append(int b) {
            if (used < MOST_BYTES) {
                bytes[used] = b;
                used++;
            }
            understand();
        }

        void clear() {
            used = 0;
            understand();
        }

        private void understand() {
            many = 0;
            wanted = 0;
            badPlace = used == 0 ? NONE : understandGoods();
            if (badPlace != NONE) {
                many = 0;
                wanted = 0;
            }
        }

        private int understandGoods() {
            int start = 0;
            for (int g = 0; g < MOST_GOODS; g++) {
                int letter = endOfFigures(start);
                int price = numberBetween(start, letter);
                // A PRICE of 0 is told by its first figure, and so is one without figures: both stop at its start.
                if (price == 0) {
                    return start;
                }
                int sign = byteAt(letter);
                if (sign != 'w' && sign != 't') {
                    return letter;
                }
                prices[g] = price;
                wanted |= sign == 'w' ? 1 << g : 0;
                many = g + 1;
                if (letter + 1 == used) {
                    return NONE;
                }
                if (byteAt(letter + 1) != ';') {
                    return letter + 1;
                }
                start = letter + 2;
            }
            return start;
        }

        private int endOfFigures(int start) {
            int end = start;
            while (end < start + 3 && byteAt(end) >= '0' && byteAt(end) <= '9') {
                end++;
            }
            return end;
        }

        private int numberBetween(int start, int end) {
            int number = 0;
            for (int place = start; place < end; place++) {
                number = number * 10 + byteAt(place) - '0';
            }
            return number;
        }

        private int byteAt(int place) {
            return place >= 0 && place < used ? bytes[place] : NONE;
        }
    }

    /** BILLS of all sets of GOODS; reckoned once, until GOODS or law are others. */
    private static final class Till {
        private final Law law;
        private final Goods goods;
        private final int[] sums = new int[MOST_SETS];
        private final int[] payments = new int[MOST_SETS];
        /** What is PAID for a set, least and most, when it is parted into as many bills as were reckoned last. */
        private final int[] leastParted = new int[MOST_SETS];
        private final int[] mostParted = new int[MOST_SETS];
        private boolean knowsBills = false;
        private boolean knowsBought = false;
        private int least = 0;
        private int fewest = 0;
        private int bitsOfLeast = 0;
        private int most = 0;

        Till(Law law, Goods goods) {
            this.law = law;
            this.goods = goods;
        }

        void forget() {
            knowsBills = false;
            knowsBought = false;
        }

        int sumOf(int bits) {
            reckonBills();
            return sums[bits];
        }

        int paidOf(int bits) {
            reckonBills();
            return payments[bits];
        }

        int gainOf(int bits) {
            return sumOf(bits) - paidOf(bits);
        }

        int leastPaid() {
            reckonBought();
            return least;
        }

        int leastBills() {
            reckonBought();
            return fewest;
        }

        int leastBits() {
            reckonBought();
            return bitsOfLeast;
        }

        int mostPaid() {
            reckonBought();
            return most;
        }

        /** Of BILLS of up to so many GOODS the one with the most that is PAID less than its SUM. */
        int greatestGain(int many) {
            reckonBills();
            int best = 1;
            for (int bits = 2; bits <= goods.allBits(); bits++) {
                if (Integer.bitCount(bits) <= many && sums[bits] - payments[bits] > sums[best] - payments[best]) {
                    best = bits;
                }
            }
            return best;
        }

        int leastRaise(int good, int d) {
            reckonBills();
            int bit = 1 << good;
            // No raise mends a BILL on which the good does not stand.
            if (!isProof(0, bit, 0, d)) {
                return NONE;
            }
            for (int more = 0; more <= MOST_RAISED; more++) {
                if (isProof(bit, bit, more, d)) {
                    return more;
                }
            }
            return NONE;
        }

        /** Whether no BILL whose bits under the mask are as told gains more than d, if its SUM is so much more. */
        private boolean isProof(int told, int mask, int more, int d) {
            for (int bits = 1; bits <= goods.allBits(); bits++) {
                if ((bits & mask) == told) {
                    int sum = sums[bits] + more;
                    if (sum - law.paidFor(sum) > d) {
                        return false;
                    }
                }
            }
            return true;
        }

        private void reckonBills() {
            if (knowsBills) {
                return;
            }
            for (int good = 0; good < goods.size(); good++) {
                int bit = 1 << good;
                for (int others = 0; others < bit; others++) {
                    sums[bit + others] = sums[others] + goods.priceOf(good);
                    payments[bit + others] = law.paidFor(sums[bit + others]);
                }
            }
            knowsBills = true;
        }

        private void reckonBought() {
            if (knowsBought) {
                return;
            }
            reckonBills();
            least = goods.wantedBits() == 0 ? 0 : MOST_INT;
            fewest = 0;
            bitsOfLeast = 0;
            most = 0;
            for (int bits = 1; bits <= goods.allBits(); bits++) {
                leastParted[bits] = payments[bits] + law.valueOf(FEE);
                mostParted[bits] = leastParted[bits];
            }
            takeBest(1);
            for (int bills = 2; bills <= law.valueOf(BILLS); bills++) {
                partOnceMore(bills);
                takeBest(bills);
            }
            knowsBought = true;
        }

        /** Bills and bits go up, so the first of like ones has the fewest bills, then the least bits. */
        private void takeBest(int bills) {
            int wanted = goods.wantedBits();
            for (int bits = 1; bits <= goods.allBits(); bits++) {
                if ((bits & wanted) == wanted && Integer.bitCount(bits) >= bills) {
                    if (leastParted[bits] < least) {
                        least = leastParted[bits];
                        fewest = bills;
                        bitsOfLeast = bits;
                    }
                    most = Math.max(most, mostParted[bits]);
                }
            }
        }

        /** From the greatest set down, as each needs smaller ones as they were with a bill less. */
        private void partOnceMore(int bills) {
            for (int bits = goods.allBits(); bits > 0; bits--) {
                if (Integer.bitCount(bits) >= bills) {
                    partSet(bits, bills);
                }
            }
        }

        /** One bill has the lowest of the GOODS, so that no parting is tried twice; the others have the rest. */
        private void partSet(int bits, int bills) {
            int free = bits & (bits - 1);
            int low = MOST_INT;
            int high = 0;
            for (int rest = free; rest > 0; rest = (rest - 1) & free) {
                if (Integer.bitCount(rest) >= bills - 1) {
                    int one = payments[bits ^ rest] + law.valueOf(FEE);
                    low = Math.min(low, one + leastParted[rest]);
                    high = Math.max(high, one + mostParted[rest]);
                }
            }
            leastParted[bits] = low;
            mostParted[bits] = high;
        }
    }

    /** Whose each of the GOODS is, and what each PARTNER brings. */
    private static final class Partners {
        /** In so many orders the four may come. */
        static final int ORDERS = 24;
        /** In how many of them just the others of a set, by how many they are, come ahead of one. */
        private static final int[] ORDERS_BEHIND = {6, 2, 2, 6};

        private final Law law;
        private final Goods goods;
        private final int[] owners = new int[MOST_GOODS];

        Partners(Law law, Goods goods) {
            this.law = law;
            this.goods = goods;
        }

        int ownerOf(int good) {
            return owners[good];
        }

        void give(int good, int partner) {
            owners[good] = partner;
        }

        long broughtInAllOrders(int partner) {
            int bit = 1 << partner;
            long brought = 0;
            for (int others = 0; others < 1 << MOST_PARTNERS; others++) {
                if ((others & bit) == 0) {
                    int orders = ORDERS_BEHIND[Integer.bitCount(others)];
                    brought += orders * (paidBySet(others | bit) - paidBySet(others));
                }
            }
            return brought;
        }

        /** The greatest number that divides both; it is all of the orders for 0, which makes 0 by 1 of it. */
        static int commonWithOrders(long brought) {
            int common = ORDERS;
            while (common > 1 && (ORDERS % common != 0 || brought % common != 0)) {
                common--;
            }
            return common;
        }

        private int paidBySet(int set) {
            int sum = 0;
            for (int good = 0; good < goods.size(); good++) {
                if ((set & 1 << owners[good]) != 0) {
                    sum += goods.priceOf(good);
                }
            }
            return law.paidFor(sum);
        }
    }

    /** A PURSE from which the same is PAID round by round, and whose CHANGE is read from the right, too. */
    private static final class Purse {
        private final Law law;
        /** What was in it ahead of each ROUND, and at last. */
        private final int[] held = new int[MOST_ROUNDS + 1];
        private int made = 0;

        Purse(Law law) {
            this.law = law;
        }

        void payOn(int purse, int n) {
            int price = law.paidFor(n);
            held[0] = purse;
            made = 0;
            while (made < MOST_ROUNDS && price <= held[made]) {
                held[made + 1] = law.paidFor(held[made] - price);
                made++;
            }
        }

        int roundsPaid() {
            return made;
        }

        int contents() {
            return held[made];
        }

        int firstReturn() {
            for (int round = 1; round <= made; round++) {
                for (int before = 0; before < round; before++) {
                    if (held[before] == held[round]) {
                        return round;
                    }
                }
            }
            return NONE;
        }
    }

    /** Numbers of so many figures, by how they are PAID; counted once, until the law is another. */
    private static final class FigureCount {
        private static final int ALIKE = 0, BELOW = 1, ABOVE = 2, FARTHEST = 3;

        private final Law law;
        private final int[] answers = new int[4];
        private int counted = 0;
        private int farthestBy = NONE;

        FigureCount(Law law) {
            this.law = law;
        }

        void forget() {
            counted = 0;
        }

        int answer(int many, int what) {
            if (counted != many) {
                farthestBy = NONE;
                Arrays.fill(answers, 0);
                countAll(many);
                counted = many;
            }
            return answers[what];
        }

        private void countAll(int many) {
            int base = law.valueOf(BASE);
            if (many == 1) {
                for (int n = 1; n < base; n++) {
                    take(n, 1);
                }
                return;
            }
            int middles = many == 3 ? base : 1;
            int unit = middles * base;
            for (int first = 1; first < base; first++) {
                for (int middle = 0; middle < middles; middle++) {
                    take(first * unit + middle * base, 1);
                }
                // Without a nought at the end the middle figure stays in its place: one number stands for all of them.
                for (int last = 1; last < base; last++) {
                    take(first * unit + last, middles);
                }
            }
        }

        private void take(int n, int alike) {
            int paid = law.paidFor(n);
            int side = paid == n ? ALIKE : paid < n ? BELOW : ABOVE;
            answers[side] += alike;
            int difference = Math.abs(paid - n);
            if (difference > farthestBy || difference == farthestBy && n < answers[FARTHEST]) {
                farthestBy = difference;
                answers[FARTHEST] = n;
            }
        }
    }

    /** A RENT that is parted in MONTHS. */
    private static final class Months {
        private final Law law;
        private final int[] payments = new int[MOST_RENT + 1];
        private final int[] best = new int[MOST_RENT + 1];

        Months(Law law) {
            this.law = law;
        }

        int part(int rent, int months, boolean most) {
            for (int part = 0; part <= rent; part++) {
                payments[part] = law.paidFor(part);
                best[part] = payments[part];
            }
            for (int month = 2; month <= months; month++) {
                // From the whole RENT down, as each needs smaller ones as they were with a month less.
                for (int whole = rent; whole >= 0; whole--) {
                    best[whole] = bestOfTwo(whole, most);
                }
            }
            return best[rent];
        }

        private int bestOfTwo(int whole, boolean most) {
            int found = best[whole];
            for (int part = 1; part <= whole; part++) {
                int together = payments[part] + best[whole - part];
                if (most ? together > found : together < found) {
                    found = together;
                }
            }
            return found;
        }
    }

    /** Two who add in turn, the first for the least, the other for the most that is PAID at the END. */
    private static final class Turns {
        private final Law law;
        /** What is PAID at last from each number on, if the first is to add, and if the other is. */
        private final int[] ofFirst = new int[MOST_END + MOST_AMOUNT];
        private final int[] ofOther = new int[MOST_END + MOST_AMOUNT];

        Turns(Law law) {
            this.law = law;
        }

        void playDownTo(int n, int amounts, int end) {
            for (int over = end; over < end + MOST_AMOUNT; over++) {
                ofFirst[over] = law.paidFor(over);
                ofOther[over] = ofFirst[over];
            }
            for (int from = end - 1; from >= n; from--) {
                ofFirst[from] = ofOther[from + bestAmount(ofOther, from, amounts, false)];
                ofOther[from] = ofFirst[from + bestAmount(ofFirst, from, amounts, true)];
            }
        }

        int outcomeFrom(int n) {
            return ofFirst[n];
        }

        int firstAmount(int n, int amounts) {
            return bestAmount(ofOther, n, amounts, false);
        }

        private static int bestAmount(int[] outcomes, int from, int amounts, boolean most) {
            int best = 0;
            for (int amount = 1; amount <= MOST_AMOUNT; amount++) {
                if ((amounts & 1 << amount) != 0) {
                    int outcome = outcomes[from + amount];
                    boolean better = most ? outcome > outcomes[from + best] : outcome < outcomes[from + best];
                    if (best == 0 || better) {
                        best = amount;
                    }
                }
            }
            return best;
        }
    }

    /** A row of a FORM, or LOST. */
    private static final class Sheet {
        private static final int LOST = -1;

        private final int[] items = new int[MOST_ITEMS];
        private int form = LOST;
        private int length = 0;

        boolean isLost() {
            return form == LOST;
        }

        boolean isLike(Sheet other) {
            return form == other.form;
        }

        int size() {
            return length;
        }

        int itemAt(int i) {
            return items[i];
        }

        void renew(int newForm, int n) {
            form = newForm;
            length = n;
            Arrays.fill(items, 0);
        }

        void giveUp() {
            form = LOST;
            length = 0;
        }

        void put(int i, int v) {
            switch (form) {
                case BYTES:
                    items[i] = (byte) v;
                    break;
                case SHORTS:
                    items[i] = (short) v;
                    break;
                default:
                    items[i] = v;
                    break;
            }
        }

        /** What is found where item i is treated as of a FORM. */
        int findingAt(int asForm, int i) {
            if (isLost()) {
                return NULL;
            }
            if (form != asForm) {
                return CAST;
            }
            return within(i, 0, length - 1) ? NO_FINDING : INDEX;
        }

        /** The end is not reckoned from i and n together, as that may wrap. */
        boolean hasRun(int i, int n) {
            return i >= 0 && n >= 0 && i <= length && n <= length - i;
        }

        void takeRun(Sheet from, int i, int j, int n) {
            System.arraycopy(from.items, i, items, j, n);
        }

        /** Whether figures (the lowest first) are those of this pattern (the highest first). */
        boolean fits(int[] figures, int many) {
            if (many != length) {
                return false;
            }
            for (int i = 0; i < many; i++) {
                if (items[i] != SMUDGE && items[i] != figures[many - 1 - i]) {
                    return false;
                }
            }
            return true;
        }
    }
}
