/** Promise 28: digest. */
public final class DigestTest {
    private static final Check CHECK = new Check();

    public static void main(String[] args) {
        promise28DigestOfNothing();
        promise28DigestOfGoods();
        promise28DigestToAllBases();
        promise28DigestChangesNothing();
        CHECK.end();
    }

    private static void promise28DigestOfNothing() {
        CHECK.due("digest() of a new object", new ReadFromRight().digest(), -8397272453921907114L);
        CHECK.due("as of the model", new PlainModel().digest(), -8397272453921907114L);
    }

    private static void promise28DigestOfGoods() {
        String[] texts = {"12w;9w;9t", "100w;10t;1t;999w", "7t", "0", "12w;", "990w;15t;15t;301w;88t"};
        for (String text : texts) {
            for (int base : new int[] {10, 2, 21, 36}) {
                compare(text, base, 0);
                compare(text, base, 1);
            }
        }
    }

    private static void promise28DigestToAllBases() {
        for (int base = 2; base <= 36; base++) {
            compare("31w;42t", base, 0);
            compare("61w;83t", base, 1);
        }
    }

    private static void compare(String text, int base, int noughts) {
        ReadFromRight x = Check.withGoods(text);
        PlainModel m = new PlainModel();
        for (char b : text.toCharArray()) {
            m.type(b);
        }
        int[] law = {base, noughts, 7, 3};
        for (int what = 0; what < 4; what++) {
            x.set(what, law[what]);
            m.set(what, law[what]);
        }
        x.partner(1, 2);
        m.partner(1, 2);
        CHECK.due("digest() of " + text + " to " + base + ", noughts " + noughts, x.digest(), m.digest());
    }

    private static void promise28DigestChangesNothing() {
        ReadFromRight x = Check.withGoods("12w;9w;9t");
        x.lose(0);
        x.sheet(0, 0, -1);
        long first = x.digest();
        CHECK.due("digest() again", x.digest(), first);
        CHECK.due("count(8)", x.count(8), 5);
        x.sheet(0, 0, 4);
        CHECK.due("SHEETS are no part of it", x.digest(), first);
        x.partner(7, 3);
        CHECK.due("nor is whose a good is that there is not", x.digest(), first);
        x.partner(0, 3);
        CHECK.isTrue("but whose one is that there is", x.digest() != first);
    }
}
