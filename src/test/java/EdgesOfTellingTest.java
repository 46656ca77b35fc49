import java.math.BigInteger;
import java.util.ArrayList;
import java.util.List;

/** Edges of promises 31 to 34: what is told. */
public final class EdgesOfTellingTest extends Edges {
    private static void howManyShops() {
        edge(31, "An IMAGE is kept: how many SHOPS.");
        ShopsAsOne x = Streets.owners(0, 0);
        for (int i = 0; i <= 6; i++) {
            due("image", x.image(), i);
            due("restore", x.restore(), i);
            x.shop(i % 2, 0, 0, 0);
        }
        due("of no owners", new ShopsAsOne().image(), 0);
    }

    private static void theLatest() {
        edge(31, "(one; the latest)");
        ShopsAsOne x = Streets.rivals();
        x.image();
        x.price(0, 1);
        refused(x, "image changes nothing", y -> y.image(), 2);
        x.price(0, 9);
        x.restore();
        due("of the latest", x.about(0, 3), 1);
        x.price(1, 8);
        x.restore();
        due("of the latest, again", x.about(1, 3), 5);
        x.price(0, 2);
        x.image();
        x.restore();
        due("of the latest, as it is", x.about(0, 3), 2);
    }

    private static void noImage() {
        edge(32, "STATE: none was kept, or SHOPS came since");
        refused(new ShopsAsOne(), "nothing there", x -> x.restore(), STATE);
        refused(Streets.rivals(), "none kept", x -> x.restore(), STATE);
        refused(Streets.sellers(), "none kept, with five shops", x -> x.restore(), STATE);
        ShopsAsOne x = Streets.rivals();
        x.image();
        due("no shop came", x.restore(), 2);
        x.shop(0, 0, 0, 0);
        refused(x, "one came", y -> y.restore(), STATE);
        refused(x, "one came", y -> y.restore(), STATE);
        x.image();
        due("none came since", x.restore(), 3);
        due("a refused shop", x.shop(0, 0, 0, 10), OUTSIDE);
        due("did not come", x.restore(), 3);
        ShopsAsOne z = new ShopsAsOne();
        z.image();
        z.owner(0, 0);
        due("of nothing", z.restore(), 0);
        z.shop(0, 0, 0, 0);
        refused(z, "the first came", y -> y.restore(), STATE);
    }

    private static void pricesInAndWhose() {
        edge(32, "It goes on from the IMAGE: PRICES, who is IN, whose SHOPS are");
        ShopsAsOne x = Streets.owners(4, 4, 0);
        x.shop(0, 0, 0, 5);
        x.shop(1, 9, 0, 5);
        x.shop(2, 5, 0, 0);
        Streets.stay(x, 0, 10, 5);
        Streets.stay(x, 9, 10, 5);
        x.turn(0);
        long before = x.digest();
        x.image();
        due("1 comes", x.turn(1), 1);
        x.price(0, 9);
        x.price(2, 9);
        x.merge(2, 0);
        due("0 has no shops, so it goes", x.turn(0), 1);
        for (int i = 0; i < 2; i++) {
            due("restore", x.restore(), 3);
            due("all as it was", x.digest(), before);
            due("0 is IN", x.about(0, 4), 1);
            due("at 5", x.about(0, 3), 5);
            due("1 is OUT", x.about(1, 4), 0);
            due("2's price", x.about(2, 3), 0);
            x.turn(1);
            x.price(2, 1);
            x.merge(1, 2);
        }
    }

    private static void ownersThatCameSince() {
        edge(32, "(OWNERS that came since stay as they are)");
        ShopsAsOne x = Streets.owners(0);
        x.shop(0, 0, 0, 5);
        Streets.stay(x, 0, 10, 5);
        x.image();
        for (int owner = 1; owner < 6; owner++) {
            x.owner(4, owner);
        }
        x.merge(5, 0);
        due("5 comes", x.turn(5), 1);
        due("restore", x.restore(), 1);
        due("owners", x.count(0), 6);
        due("the shop is the old one's", x.about(0, 0), 0);
        x.merge(4, 0);
        due("4 is OUT still", x.about(0, 4), 0);
        x.merge(5, 4);
        due("5 is IN still", x.about(0, 4), 1);
        x.restore();
        due("5 has no shops, so it goes", x.turn(5), 1);
        x.restore();
        x.merge(5, 0);
        due("and is OUT still", x.about(0, 4), 0);
        x.turn(5);
        x.image();
        x.restore();
        due("IN by the next image", x.about(0, 4), 1);
    }

    private static void whatIsNotOfIt() {
        edge(32, "An IMAGE keeps PRICES, who is IN, whose SHOPS are.");
        ShopsAsOne x = Streets.rivals();
        Streets.write(x, "s<5");
        x.image();
        x.test();
        Streets.write(x, "abcd");
        x.wrong(0, 0);
        Streets.stay(x, 9, 1, 0);
        x.owner(0, 0);
        long before = x.digest();
        due("restore", x.restore(), 2);
        due("all of that stays", x.digest(), before);
        int[] due = {3, 2, 2, 1, 4, 10, 1};
        for (int what = 0; what <= 6; what++) {
            due("count(" + what + ")", x.count(what), due[what]);
        }
    }

    private static void howMany() {
        edge(33, "0 OWNERS, 1 SHOPS, 2 SORTS, 3 TESTS, 4 letters of THE PAGE, 5 all that is SOLD, 6 how often wrong() was done");
        ShopsAsOne x = Streets.full();
        int[] due = {6, 6, 8, 4, 50, -1, 6};
        int sold = 0;
        for (int shop = 0; shop < 6; shop++) {
            sold += x.about(shop, 5);
        }
        due[5] = sold;
        for (int what = 0; what <= 6; what++) {
            due("all full, count(" + what + ")", x.count(what), due[what]);
        }
        for (int what : beside(0, 6)) {
            refused(x, "count(" + what + ")", y -> y.count(what), OUTSIDE);
            refused(new ShopsAsOne(), "count(" + what + ")", y -> y.count(what), OUTSIDE);
        }
        ShopsAsOne z = Streets.owners(0);
        z.shop(0, 0, 0, 1);
        for (int i = 0; i < 8; i++) {
            due("sold", z.count(5), 50 * i);
            Streets.stay(z, 0, 50, 1);
        }
        due("sold", z.count(5), 400);
        z.price(0, 2);
        due("nothing is", z.count(5), 0);
    }

    /** What digest() looks at, asked one by one; sorts and kinds as they were told. */
    private static List<Integer> numbers(ShopsAsOne x, int[][] owners, int[][] sorts, String page) {
        List<Integer> all = new ArrayList<>();
        for (int i = 0; i < owners.length; i++) {
            all.add(owners[i][0]);
            all.add(owners[i][1]);
            all.add(x.profit(i));
        }
        for (int shop = 0; shop < x.count(1); shop++) {
            for (int what = 0; what <= 5; what++) {
                all.add(x.about(shop, what));
            }
        }
        for (int i = 0; i < sorts.length; i++) {
            for (int number : sorts[i]) {
                all.add(number);
            }
            all.add(x.goes(i));
            all.add(x.spare(i));
        }
        for (int test = 0; test < x.count(3); test++) {
            for (int a = 0; a < owners.length; a++) {
                for (int b = a + 1; b < owners.length; b++) {
                    all.add(x.bars(test, a, b));
                }
            }
        }
        for (char c : page.toCharArray()) {
            all.add((int) c);
        }
        for (int what = 0; what <= 6; what++) {
            all.add(x.count(what));
        }
        return all;
    }

    /** Reckoned without end, and cut to a long behind it. */
    private static BigInteger unwrapped(List<Integer> numbers) {
        BigInteger h = BigInteger.valueOf(373);
        for (int number : numbers) {
            h = h.multiply(BigInteger.valueOf(31)).add(BigInteger.valueOf(number));
        }
        return h;
    }

    private static void sumsThatWrap() {
        edge(34, "31 times h, and it (as longs, wrapping)");
        int[][] owners = {{0, 99}, {1, 1}, {2, 2}, {3, 3}, {4, 99}, {0, 0}};
        int[][] sorts = {{0, 50, 5, 30, NONE, 9}, {9, 50, 5, 30, 5, 9}, {5, 1, 0, 0, 0, 0}, {2, 20, 1, 12, 2, 3},
            {9, 7, 2, 9, 3, 1}, {6, 30, 1, 10, NONE, 0}, {4, 3, 3, 15, 4, 2}, {8, 9, 4, 20, 1, 9}};
        ShopsAsOne x = Streets.full();
        List<Integer> numbers = numbers(x, owners, sorts, "~".repeat(50));
        BigInteger h = unwrapped(numbers);
        due("numbers", numbers.size(), 18 + 36 + 64 + 60 + 50 + 7);
        due("far above a long", h.bitLength() > 1000 ? 1 : 0, 1);
        due("digest", x.digest(), h.longValue());
        due("again", x.digest(), h.longValue());
    }

    private static void justBelowTheWrap() {
        edge(34, "h is 373, then for each of these numbers, in order");
        for (int letters = 0; letters <= 12; letters++) {
            ShopsAsOne x = new ShopsAsOne();
            String page = "~".repeat(letters);
            Streets.write(x, page);
            BigInteger h = unwrapped(numbers(x, new int[0][], new int[0][], page));
            due(letters + " letters of 126, does it wrap", h.bitLength() > 63 ? 1 : 0, letters > 3 ? 1 : 0);
            due(letters + " letters of 126", x.digest(), h.longValue());
        }
    }

    private static void belowNothing() {
        edge(34, "where it goes, SPARE; PROFIT");
        ShopsAsOne x = Streets.owners(0, 4);
        x.shop(0, 0, 9, 0);
        x.shop(1, 0, 0, 0);
        x.sort(0, 50, 5, 0, NONE, 0);
        x.sort(9, 1, 5, 30, NONE, 0);
        int[][] owners = {{0, 0}, {4, 0}};
        int[][] sorts = {{0, 50, 5, 0, NONE, 0}, {9, 1, 5, 30, NONE, 0}};
        due("a loss", x.profit(0), -450);
        due("without", x.goes(1), NONE);
        due("digest", x.digest(), unwrapped(numbers(x, owners, sorts, "")).longValue());
        x.merge(1, 0);
        due("all shut", x.digest(), unwrapped(numbers(x, owners, sorts, "")).longValue());
    }

    private static void eachTwoOwners() {
        edge(34, "of each TEST of each two OWNERS (the lesser first) 1 if it BARS them, else 0");
        for (int owners = 0; owners <= 6; owners++) {
            ShopsAsOne x = new ShopsAsOne();
            int[][] told = new int[owners][];
            for (int i = 0; i < owners; i++) {
                told[i] = new int[] {2, i};
                x.owner(2, i);
                x.shop(i, i, 0, 0);
            }
            Streets.test(x, "d<2");
            Streets.test(x, "d>3");
            List<Integer> numbers = numbers(x, told, new int[0][], "");
            due("numbers of " + owners, numbers.size(), 9 * owners + owners * (owners - 1) + 7);
            due("digest of " + owners, x.digest(), unwrapped(numbers).longValue());
        }
    }

    private static void lastOfAllCalls() {
        edge(34, "An object is used for at most 512 calls");
        ShopsAsOne x = Streets.rivals();
        long before = x.digest();
        x.image();
        int calls = 7;
        for (; calls + 7 < 512; calls += 7) {
            due("rests", x.rest(), 6);
            x.price(0, calls % 10);
            x.merge(calls % 2, 1 - calls % 2);
            due("letters", x.letters(0x7e01L), 2);
            due("harm", x.harm(0, 1, 0), 0);
            due("blank", x.blank(), 2);
            due("restore", x.restore(), 2);
        }
        for (; calls < 511; calls++) {
            x.count(0);
        }
        due("the 512th", x.digest(), before);
    }

    public static void main(String[] args) {
        howManyShops();
        theLatest();
        noImage();
        pricesInAndWhose();
        ownersThatCameSince();
        whatIsNotOfIt();
        howMany();
        sumsThatWrap();
        justBelowTheWrap();
        belowNothing();
        eachTwoOwners();
        lastOfAllCalls();
        end();
    }
}
