/** Promises 17 and 18: each sentence that names an edge, for itself. What is refused there is in RefusalsTest, too. */
public final class RentsAndPartnersEdgesTest {
    private static final Check CHECK = new Check();
    private static final long BAD = Long.MIN_VALUE + 2;

    public static void main(String[] args) {
        promise17LeastAndGreatestRent();
        promise17OneToSixMonths();
        promise17OneMonthIsAllOfIt();
        promise17PartsOfNoughtMayBe();
        promise17MoreMonthsAreNeverWorse();
        promise17FeesAreNoPartOfIt();
        promise18NothingWithoutGoods();
        promise18EachPartnerAndNoMore();
        promise18LowestTerms();
        promise18PerhapsBelowNought();
        promise18AllOrdersOfFour();
        promise18GoodsThatAreNotThereAreOfNobody();
        promise18FeesAreNoPartOfIt();
        CHECK.end();
    }

    private static ReadFromRight town(String text, int base, int noughts) {
        ReadFromRight x = Check.withGoods(text);
        x.set(0, base);
        x.set(1, noughts);
        return x;
    }

    private static void rent(ReadFromRight x, int rent, int months, int least, int most) {
        CHECK.due("rent(" + rent + ", " + months + ", 0)", x.rent(rent, months, 0), least);
        CHECK.due("rent(" + rent + ", " + months + ", 1)", x.rent(rent, months, 1), most);
    }

    private static void promise17LeastAndGreatestRent() {
        ReadFromRight x = town("", 10, 0);
        for (int months = 1; months <= 6; months++) {
            rent(x, 0, months, 0, 0);
            rent(x, 1, months, 1, 1);
        }
        rent(x, 120, 1, 21, 21);
        rent(x, 120, 2, 3, 912);
        rent(x, 120, 6, 3, 912);
        rent(x, 119, 1, 911, 911);
        CHECK.due("rent(121, 1, 0)", x.rent(121, 1, 0), ReadFromRight.BAD);
        CHECK.due("rent(-1, 1, 0)", x.rent(-1, 1, 0), ReadFromRight.BAD);
    }

    private static void promise17OneToSixMonths() {
        // To 2 powers of two are 1 each: 63 is 32, 16, 8, 4, 2 and 1.
        int[] least = {63, 14, 9, 8, 7, 6};
        // To 12: 23 (1 11) is 133 (11 1), five of them in 115 and 5 left.
        int[] most = {10, 153, 296, 439, 582, 670};
        for (int months = 1; months <= 6; months++) {
            CHECK.due("to 2: rent(63, " + months + ", 0)", town("", 2, 0).rent(63, months, 0), least[months - 1]);
            CHECK.due("to 12: rent(120, " + months + ", 1)", town("", 12, 0).rent(120, months, 1), most[months - 1]);
        }
        for (int end = 0; end <= 1; end++) {
            CHECK.due("rent(63, 0, .)", town("", 2, 0).rent(63, 0, end), ReadFromRight.BAD);
            CHECK.due("rent(63, 7, .)", town("", 2, 0).rent(63, 7, end), ReadFromRight.BAD);
        }
    }

    private static void promise17OneMonthIsAllOfIt() {
        for (int rent = 0; rent <= 120; rent++) {
            ReadFromRight x = town("", 10, rent % 2);
            rent(x, rent, 1, x.paid(rent), x.paid(rent));
        }
    }

    private static void promise17PartsOfNoughtMayBe() {
        ReadFromRight x = town("", 10, 1);
        // 1 in six months is 1 and five times 0.
        rent(x, 1, 6, 1, 1);
        // 21 is 12 by itself, and no two parts are less: 20 and 1 stay 20 and 1.
        CHECK.due("the least with a month of 0: rent(21, 2, 0)", x.rent(21, 2, 0), 12);
        // 12 is 21 by itself, and no two parts are more.
        CHECK.due("the most with a month of 0: rent(12, 2, 1)", x.rent(12, 2, 1), 21);
        CHECK.due("the most with months of 0: rent(19, 6, 1)", x.rent(19, 6, 1), 91);
        // To 2, noughts fall off: 2 is 1 and 6 is 3, so that parts of 1 are the most.
        ReadFromRight y = town("", 2, 0);
        rent(y, 2, 1, 1, 1);
        rent(y, 2, 2, 1, 2);
        rent(y, 6, 6, 2, 6);
    }

    private static void promise17MoreMonthsAreNeverWorse() {
        for (int base = 2; base <= 36; base++) {
            ReadFromRight x = town("", base, base % 2);
            for (int rent = 100; rent <= 120; rent++) {
                for (int months = 2; months <= 6; months += 2) {
                    CHECK.isTrue("to " + base + ": the least of " + rent + " in " + months,
                        x.rent(rent, months, 0) <= x.rent(rent, months - 1, 0));
                    CHECK.isTrue("to " + base + ": the most of " + rent + " in " + months,
                        x.rent(rent, months, 1) >= x.rent(rent, months - 1, 1));
                }
            }
        }
    }

    private static void promise17FeesAreNoPartOfIt() {
        ReadFromRight x = town("12w", 10, 0);
        x.set(2, 99);
        x.set(3, 4);
        rent(x, 120, 2, 3, 912);
    }

    private static void share(ReadFromRight x, int partner, long above, long below) {
        CHECK.due("share(" + partner + ", 0)", x.share(partner, 0), above);
        CHECK.due("share(" + partner + ", 1)", x.share(partner, 1), below);
    }

    private static void promise18NothingWithoutGoods() {
        for (int partner = 0; partner <= 3; partner++) {
            share(new ReadFromRight(), partner, 0, 1);
            share(Check.withGoods("12w;"), partner, 0, 1);
        }
        ReadFromRight x = Check.withGoods("12w");
        share(x, 0, 21, 1);
        share(x, 1, 0, 1);
        x.partner(0, 3);
        share(x, 0, 0, 1);
        share(x, 3, 21, 1);
        x.wipe();
        share(x, 3, 0, 1);
    }

    private static void promise18EachPartnerAndNoMore() {
        for (int partner = 0; partner <= 3; partner++) {
            ReadFromRight x = Check.withGoods("12w;9t");
            x.partner(0, partner);
            x.partner(1, partner);
            share(x, partner, 12, 1);
            share(x, (partner + 1) % 4, 0, 1);
        }
        ReadFromRight y = Check.withGoods("12w");
        for (int wrong : new int[] {-1, 4, Integer.MIN_VALUE, Integer.MAX_VALUE}) {
            CHECK.due("share(" + wrong + ", 0)", y.share(wrong, 0), BAD);
            CHECK.due("share(" + wrong + ", 1)", y.share(wrong, 1), BAD);
        }
        CHECK.due("share(0, -1)", y.share(0, -1), BAD);
        CHECK.due("share(0, 2)", y.share(0, 2), BAD);
    }

    private static ReadFromRight ofEachOne(String text, int base, int noughts) {
        ReadFromRight x = town(text, base, noughts);
        for (int good = 0; good < 4; good++) {
            x.partner(good, good);
        }
        return x;
    }

    private static void promise18LowestTerms() {
        share(ofEachOne("3w;4w;6w", 10, 0), 0, 12, 1);
        share(ofEachOne("3w;4w;6w", 10, 0), 1, 17, 2);
        share(ofEachOne("7w;11w;9w", 9, 0), 0, 13, 3);
        share(ofEachOne("18w;9w;4w;2w", 10, 0), 0, 123, 4);
        share(ofEachOne("9w;1w;8w;11w", 11, 0), 0, 139, 6);
        share(ofEachOne("2w;12w;7w;4w", 8, 1), 2, 91, 12);
    }

    private static void promise18PerhapsBelowNought() {
        share(ofEachOne("1w;11w;6w;1w", 7, 0), 2, -1, 1);
        share(ofEachOne("10w;19w;14w", 10, 0), 2, -17, 2);
        share(ofEachOne("7w;11w;9w", 9, 0), 1, -35, 3);
        share(ofEachOne("2w;12w;7w;4w", 8, 1), 0, -27, 4);
        share(ofEachOne("10w;7w;3w;5w", 11, 0), 3, -55, 6);
        share(ofEachOne("2w;12w;7w;4w", 8, 1), 3, -43, 12);
    }

    private static void promise18AllOrdersOfFour() {
        // Two with GOODS: 1 alone is 1, 9 alone is 9, 10 together 1; ahead of one another in half of all orders each.
        ReadFromRight x = Check.withGoods("1w;9w");
        x.partner(0, 2);
        x.partner(1, 3);
        share(x, 2, -7, 2);
        share(x, 3, 9, 2);
        share(x, 0, 0, 1);
        // Four alike bring the same: all four are 44, PAID alike.
        for (int partner = 0; partner <= 3; partner++) {
            share(ofEachOne("11w;11w;11w;11w", 10, 0), partner, 11, 1);
        }
        // 5 alone is 5, two are 1, three are 51, four are 2: together 2, so a half for each.
        for (int partner = 0; partner <= 3; partner++) {
            share(ofEachOne("5w;5w;5w;5w", 10, 0), partner, 1, 2);
        }
    }

    private static void promise18GoodsThatAreNotThereAreOfNobody() {
        ReadFromRight x = Check.withGoods("12w");
        for (int good = 1; good < 8; good++) {
            x.partner(good, good % 4);
        }
        share(x, 0, 21, 1);
        for (int partner = 1; partner <= 3; partner++) {
            share(x, partner, 0, 1);
        }
        // GOODS that may be thrown in are of a PARTNER as well.
        Check.typeAll(x, ";9t");
        share(x, 0, 12, 1);
        share(x, 1, 0, 1);
    }

    private static void promise18FeesAreNoPartOfIt() {
        ReadFromRight x = Check.withGoods("12w;9t");
        x.set(2, 99);
        x.set(3, 4);
        share(x, 0, 12, 1);
        share(x, 1, 0, 1);
    }
}
