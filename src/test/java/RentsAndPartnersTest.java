/** Promises 17 and 18: rent, share. */
public final class RentsAndPartnersTest {
    private static final Check CHECK = new Check();
    private static final long BAD = Long.MIN_VALUE + 2;

    public static void main(String[] args) {
        promise17Rent();
        promise17RentRefused();
        promise18Share();
        promise18SharesTogether();
        promise18ShareRefused();
        CHECK.end();
    }

    private static void rent(ReadFromRight x, int rent, int months, int least, int most) {
        CHECK.due("rent(" + rent + ", " + months + ", 0)", x.rent(rent, months, 0), least);
        CHECK.due("rent(" + rent + ", " + months + ", 1)", x.rent(rent, months, 1), most);
    }

    private static void promise17Rent() {
        ReadFromRight x = new ReadFromRight();
        rent(x, 0, 1, 0, 0);
        rent(x, 0, 6, 0, 0);
        rent(x, 21, 1, 12, 12);
        // 20 and 1; 19 and 2.
        rent(x, 21, 2, 3, 93);
        // Noughts may be: 12 and 0 is 21; 10 and 2 is 3.
        rent(x, 12, 2, 3, 21);
        rent(x, 120, 1, 21, 21);
        // 100 and 20; 109 and 11 is 912.
        rent(x, 120, 2, 3, 912);
        rent(x, 120, 6, 3, 912);
        x.set(2, 99);
        rent(x, 120, 6, 3, 912);
        x.set(1, 1);
        // 31 and 9 are 13 and 9; 19, 19 and 2 are 91, 91 and 2.
        rent(x, 40, 3, 22, 184);
    }

    private static void promise17RentRefused() {
        ReadFromRight x = new ReadFromRight();
        int[][] bad = {{-1, 1, 0}, {121, 1, 0}, {1, 0, 0}, {1, 7, 0}, {1, 1, -1}, {1, 1, 2},
            {Integer.MAX_VALUE, 1, 0}, {1, Integer.MIN_VALUE, 0}};
        for (int[] one : bad) {
            CHECK.due("rent(" + one[0] + ", " + one[1] + ", " + one[2] + ")", x.rent(one[0], one[1], one[2]), -2);
        }
    }

    private static void share(ReadFromRight x, int partner, long above, long below) {
        CHECK.due("share(" + partner + ", 0)", x.share(partner, 0), above);
        CHECK.due("share(" + partner + ", 1)", x.share(partner, 1), below);
    }

    private static void promise18Share() {
        ReadFromRight x = Check.withGoods("12w;9t");
        // All are of PARTNER 0: 21 is 12.
        share(x, 0, 12, 1);
        share(x, 1, 0, 1);
        share(x, 2, 0, 1);
        share(x, 3, 0, 1);
        // 12 alone is 21, 9 alone 9, both 12: 21 or 3; 9 or -9.
        x.partner(1, 3);
        share(x, 0, 12, 1);
        share(x, 3, 0, 1);
        // 1 by 1 is brought to 9: 10 is 1: 1 or -8; 9 or 0.
        ReadFromRight y = Check.withGoods("1w;9w");
        y.partner(1, 1);
        share(y, 0, -7, 2);
        share(y, 1, 9, 2);
        // Noughts that stay: 1 or 1; 9 or 9.
        y.set(1, 1);
        share(y, 0, 1, 1);
        share(y, 1, 9, 1);
        // 5, 5, 5: alone 5, two 1 (10), all 51 (15): 17 for each.
        ReadFromRight z = Check.withGoods("5w;5w;5w");
        z.partner(1, 1);
        z.partner(2, 2);
        share(z, 0, 17, 1);
        share(z, 2, 17, 1);
        share(z, 3, 0, 1);
    }

    private static void promise18SharesTogether() {
        for (int base = 2; base <= 36; base++) {
            ReadFromRight x = Check.withGoods("123w;45t;9w;990t;17w;8t;77w;301t");
            Check.fill(x, 0, 0, 0, 1, 2, 3, 3, 2, 1, 0);
            CHECK.due("read(0)", x.read(0), 8);
            x.set(0, base);
            long all = 0;
            for (int partner = 0; partner < 4; partner++) {
                CHECK.isTrue("below is a part of 24", 24 % x.share(partner, 1) == 0);
                all += x.share(partner, 0) * (24 / x.share(partner, 1));
            }
            CHECK.due("to " + base + ": all shares together", all, 24L * x.bill(255, 1));
        }
    }

    private static void promise18ShareRefused() {
        ReadFromRight x = Check.withGoods("12w");
        CHECK.due("share(-1, 0)", x.share(-1, 0), BAD);
        CHECK.due("share(4, 0)", x.share(4, 0), BAD);
        CHECK.due("share(0, -1)", x.share(0, -1), BAD);
        CHECK.due("share(0, 2)", x.share(0, 2), BAD);
        share(new ReadFromRight(), 3, 0, 1);
        share(Check.withGoods("12w;"), 0, 0, 1);
    }
}
