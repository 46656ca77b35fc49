/** Streets that the tests walk, and short ways to build them. */
final class Streets {
    private static final int NONE = -1;

    private Streets() { }

    /** Owners of these kinds, each with n 0. */
    static ShopsAsOne owners(int... kinds) {
        ShopsAsOne x = new ShopsAsOne();
        for (int kind : kinds) {
            x.owner(kind, 0);
        }
        return x;
    }

    /** Rows as owner(), shop() and sort() take them. */
    static ShopsAsOne of(int[][] owners, int[][] shops, int[][] sorts) {
        ShopsAsOne x = new ShopsAsOne();
        for (int[] o : owners) {
            x.owner(o[0], o[1]);
        }
        for (int[] s : shops) {
            x.shop(s[0], s[1], s[2], s[3]);
        }
        for (int[] s : sorts) {
            x.sort(s[0], s[1], s[2], s[3], s[4], s[5]);
        }
        return x;
    }

    /** People who like no shop, and do not leave their place. */
    static int stay(ShopsAsOne x, int place, int many, int worth) {
        return x.sort(place, many, 5, worth, NONE, 0);
    }

    /** Two ONE side by side at place 0 at no cost, price 5; ten people there to whom it is worth 9. */
    static ShopsAsOne rivals() {
        ShopsAsOne x = owners(0, 0);
        x.shop(0, 0, 0, 5);
        x.shop(1, 0, 0, 5);
        x.sort(0, 10, 0, 9, NONE, 0);
        return x;
    }

    /** Two shops, one of cost 1: so many people pay 0 for what is worth 1 to them, and 1 if the owners are one. */
    static ShopsAsOne oneDearer(int many) {
        ShopsAsOne x = owners(0, 0);
        x.shop(1, 0, 1, 5);
        x.shop(0, 0, 0, 6);
        x.sort(2, many, 0, 1, NONE, 0);
        return x;
    }

    /** Rivals at place 0, and two more at place 9 where twenty people are; nobody goes from one end to the other. */
    static ShopsAsOne twoEnds() {
        ShopsAsOne x = owners(0, 0, 0, 0);
        x.shop(0, 0, 0, 5);
        x.shop(1, 0, 0, 5);
        x.shop(2, 9, 0, 5);
        x.shop(3, 9, 0, 5);
        stay(x, 0, 10, 9);
        stay(x, 9, 20, 9);
        return x;
    }

    /**
     * Shops 0 and 1 of two owners at place 0, and people who never let two ONE come to rest there: some like shop 1.
     * If one of the two shops has a price that stays, it rests.
     */
    static ShopsAsOne restless(ShopsAsOne owners, int first, int second) {
        owners.shop(first, 0, 0, 5);
        owners.shop(second, 0, 0, 5);
        stay(owners, 0, 10, 9);
        owners.sort(0, 10, 5, 5, 1, 4);
        return owners;
    }

    /** It rests when 19 rounds have changed something; owners 2 and 4 have no shops. */
    static ShopsAsOne nineteen() {
        int[][] owners = {{3, 5}, {0, 0}, {2, 15}, {1, 37}, {4, 91}, {1, 69}};
        int[][] shops = {{0, 6, 5, 4}, {5, 6, 9, 0}, {3, 0, 9, 5}, {1, 7, 9, 9}, {3, 0, 0, 7}};
        int[][] sorts = {{4, 49, 1, 24, 0, 3}, {6, 39, 2, 11, 0, 7}, {3, 7, 4, 8, 0, 8}, {4, 4, 3, 15, 2, 3}};
        return of(owners, shops, sorts);
    }

    /** All of 20 rounds change something, the 21st would not; owners 2 and 4 have no shops. */
    static ShopsAsOne twenty() {
        int[][] owners = {{3, 49}, {0, 61}, {2, 19}, {1, 16}, {3, 77}, {1, 59}};
        int[][] shops = {{0, 6, 3, 9}, {5, 6, 9, 0}, {3, 0, 9, 7}, {1, 7, 9, 9}, {5, 0, 0, 0}};
        int[][] sorts = {{4, 49, 1, 24, 0, 3}, {6, 25, 5, 11, 0, 7}, {3, 7, 4, 8, 0, 8}, {4, 4, 3, 24, 2, 5}};
        return of(owners, shops, sorts);
    }

    /** A sells 30, b 20, c 50 of 100; a at 1, b at 3 and 8, c at 9; and a COMER that is OUT. */
    static ShopsAsOne sellers() {
        ShopsAsOne x = owners(2, 2, 2, 4);
        x.shop(0, 1, 0, 1);
        x.shop(1, 3, 0, 1);
        x.shop(1, 8, 0, 9);
        x.shop(2, 9, 0, 1);
        x.shop(3, 1, 0, 1);
        stay(x, 1, 30, 1);
        stay(x, 3, 20, 1);
        stay(x, 9, 50, 1);
        return x;
    }

    /**
     * All that may be there: owners of each kind, the first with three shops, the COMER's shut; eight sorts, four
     * tests, 50 letters that are no test, an image of other prices, and wrong() done six times.
     */
    static ShopsAsOne full() {
        int[][] owners = {{0, 99}, {1, 1}, {2, 2}, {3, 3}, {4, 99}, {0, 0}};
        int[][] shops = {{0, 0, 9, 9}, {0, 1, 8, 8}, {0, 2, 7, 7}, {1, 9, 2, 5}, {3, 5, 4, 6}, {4, 9, 0, 9}};
        int[][] sorts = {{0, 50, 5, 30, NONE, 9}, {9, 50, 5, 30, 5, 9}, {5, 1, 0, 0, 0, 0}, {2, 20, 1, 12, 2, 3},
            {9, 7, 2, 9, 3, 1}, {6, 30, 1, 10, NONE, 0}, {4, 3, 3, 15, 4, 2}, {8, 9, 4, 20, 1, 9}};
        ShopsAsOne x = of(owners, shops, sorts);
        x.image();
        for (int shop = 0; shop < 6; shop++) {
            x.price(shop, 4 + shop % 2);
        }
        test(x, "s<50");
        test(x, "!s<50&d>3");
        test(x, "(o=3|r>400)");
        test(x, "d=1");
        for (int i = 0; i < 6; i++) {
            x.wrong(i % 4, i % 2);
        }
        write(x, "~".repeat(50));
        return x;
    }

    static long packed(String letters) {
        long w = 0;
        for (int i = letters.length() - 1; i >= 0; i--) {
            w = w << 8 | letters.charAt(i);
        }
        return w;
    }

    static int write(ShopsAsOne x, String text) {
        int length = x.count(4);
        for (int i = 0; i < text.length(); i += 8) {
            length = x.letters(packed(text.substring(i, Math.min(text.length(), i + 8))));
        }
        return length;
    }

    /** A test's number, if the text is one; the page holds just that text before. */
    static int test(ShopsAsOne x, String text) {
        x.blank();
        write(x, text);
        return x.test();
    }
}
