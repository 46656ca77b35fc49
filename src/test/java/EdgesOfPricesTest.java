/** Edges of promises 12 to 19: prices and markets. */
public final class EdgesOfPricesTest extends Edges {
    /** One owner with one shop at no cost, and people of one sort beside it. */
    private static ShopsAsOne lone(int kind, int n, int price, int many, int worth) {
        ShopsAsOne x = new ShopsAsOne();
        x.owner(kind, n);
        x.shop(0, 0, 0, price);
        Streets.stay(x, 0, many, worth);
        return x;
    }

    private static void dueBests(ShopsAsOne x, String what, int... prices) {
        for (int shop = 0; shop < prices.length; shop++) {
            due(what + ": shop " + shop, x.best(shop, 0), prices[shop]);
        }
    }

    private static void ofAllPrices() {
        edge(12, "of all PRICES (0 to 9) of its SHOPS those by which its PROFIT is greatest");
        for (int kind : new int[] {0, 1, 3}) {
            dueBests(lone(kind, 0, 5, 10, 30), "worth 30", 9);
            dueBests(lone(kind, 0, 5, 10, 9), "worth 9", 9);
            dueBests(lone(kind, 0, 5, 10, 8), "worth 8", 8);
            dueBests(lone(kind, 0, 5, 1, 1), "worth 1", 1);
            dueBests(lone(kind, 0, 5, 50, 0), "worth 0", 0);
        }
        ShopsAsOne x = Streets.owners(0);
        for (int place = 0; place <= 8; place += 4) {
            x.shop(0, place, 0, 0);
            Streets.stay(x, place, 1, place + 1);
        }
        dueBests(x, "three places", 1, 5, 9);
        ShopsAsOne y = Streets.owners(0);
        y.shop(0, 0, 9, 5);
        Streets.stay(y, 0, 10, 30);
        dueBests(y, "no price brings more than 0, that of 9 does", 9);
    }

    private static void ofLikeOnes() {
        edge(12, "of like ones of least PRICE of its least SHOP, then of the next one");
        ShopsAsOne x = Streets.owners(0);
        x.shop(0, 0, 0, 9);
        x.shop(0, 5, 0, 9);
        x.shop(0, 9, 0, 9);
        dueBests(x, "nobody comes", 0, 0, 0);
        Streets.stay(x, 9, 10, 4);
        Streets.stay(x, 9, 10, 8);
        dueBests(x, "20 times 4 is 10 times 8", 0, 0, 4);
        ShopsAsOne y = Streets.owners(0);
        y.shop(0, 4, 0, 9);
        y.shop(0, 0, 1, 9);
        y.sort(0, 3, 1, 4, NONE, 0);
        y.sort(0, 9, 2, 5, NONE, 0);
        dueBests(y, "36 by (0, 5), too, not by (1, 4) alone", 0, 5);
        ShopsAsOne z = Streets.owners(0);
        z.shop(0, 9, 0, 3);
        z.shop(0, 4, 0, 9);
        z.shop(0, 0, 1, 9);
        z.sort(0, 3, 1, 4, NONE, 0);
        z.sort(0, 9, 2, 5, NONE, 0);
        dueBests(z, "the same of its next ones", 0, 0, 5);
    }

    private static void onePriceForAll() {
        edge(12, "of a CHAIN, a COMER so, but one PRICE for all its SHOPS");
        for (int kind : new int[] {1, 4}) {
            ShopsAsOne x = Streets.owners(kind);
            x.shop(0, 0, 0, 1);
            x.shop(0, 4, 0, 2);
            x.shop(0, 9, 0, 3);
            Streets.stay(x, 0, 20, 4);
            Streets.stay(x, 9, 16, 9);
            dueBests(x, "36 times 4 is 16 times 9", 4, 4, 4);
            Streets.stay(x, 9, 1, 9);
            dueBests(x, "37 times 4 is less than 17 times 9", 9, 9, 9);
        }
    }

    private static void comerAboveN() {
        edge(12, "A COMER looks at that with its SHOPS open: it is IN then, if that PROFIT is above n");
        int[][] cases = {{50, 10, 5, 0}, {49, 10, 5, 1}, {0, 50, 0, 0}, {0, 1, 1, 1}, {1, 1, 1, 0}, {99, 11, 9, 0},
            {99, 20, 5, 1}, {98, 11, 9, 1}};
        for (int[] c : cases) {
            ShopsAsOne x = lone(4, c[0], 3, c[1], c[2]);
            String what = c[1] + " times " + c[2] + ", n " + c[0];
            due(what, x.best(0, 1), c[3]);
            due(what, x.best(0, 0), c[3] == 1 ? c[2] : 3);
            due("as it is: shut", x.about(0, 4), 0);
        }
    }

    private static void comerPricesStay() {
        edge(12, "else OUT, and its PRICES stay (PROFIT 0)");
        ShopsAsOne x = lone(4, 40, 3, 10, 5);
        x.shop(0, 9, 0, 1);
        x.turn(0);
        due("IN", x.about(0, 4), 1);
        x.owner(2, 0);
        x.shop(1, 0, 0, 4);
        dueBests(x, "at 4 it would have 40", 5, 5);
        due("that is not above 40", x.best(0, 1), 0);
        due("nor is the other one open", x.best(1, 1), 0);
        due("it is still", x.about(1, 4), 1);
        due("0 by its BEST, and 0 as it is", x.gain(0), 0);
        due("it goes", x.turn(0), 1);
        dueBests(x, "and stays so", 5, 5);
    }

    private static void toldStay() {
        edge(12, "of a TOLD as they are; whether it is open then (1: 1, 0)");
        ShopsAsOne x = lone(2, 0, 3, 10, 9);
        x.shop(0, 0, 9, 0);
        dueBests(x, "told", 3, 0);
        for (int kind = 0; kind <= 3; kind++) {
            due("open, of kind " + kind, lone(kind, 99, 9, 1, 0).best(0, 1), 1);
        }
    }

    private static void othersAsTheyAre() {
        edge(12, "BEST of an OWNER, all others' PRICES as they are");
        ShopsAsOne x = Streets.owners(0, 2);
        x.shop(0, 0, 0, 9);
        x.shop(1, 0, 0, 5);
        Streets.stay(x, 0, 10, 7);
        dueBests(x, "of like ones they go to the least number", 5, 5);
        x.price(1, 8);
        dueBests(x, "above WORTH they do not go to the other one, either", 7, 8);
        x.price(1, 0);
        dueBests(x, "nothing is left", 0, 0);
        ShopsAsOne y = Streets.owners(2, 0);
        y.shop(0, 0, 0, 5);
        y.shop(1, 0, 0, 9);
        Streets.stay(y, 0, 10, 7);
        dueBests(y, "of like ones they go to the other one", 5, 4);
        y.price(0, 8);
        dueBests(y, "just what it is worth", 8, 7);
    }

    private static void bestRefused() {
        edge(12, "UNKNOWN; OUTSIDE.");
        ShopsAsOne x = lone(0, 0, 3, 10, 5);
        for (int shop : beside(0, 0)) {
            refused(x, "best(" + shop + ", 0)", y -> y.best(shop, 0), UNKNOWN);
        }
        for (int what : beside(0, 1)) {
            refused(x, "best(0, " + what + ")", y -> y.best(0, what), OUTSIDE);
        }
    }

    private static void pricesThatAreOthers() {
        edge(13, "how many PRICES are others then");
        int[][] prices = {{1, 5, 9}, {2, 5, 9}, {2, 5, 8}, {2, 4, 8}, {1, 5, 0}};
        int[] due = {0, 1, 2, 3, 1};
        for (int i = 0; i < prices.length; i++) {
            ShopsAsOne x = Streets.owners(0, 2);
            for (int shop = 0; shop < 3; shop++) {
                x.shop(0, 4 * shop, 0, prices[i][shop]);
                Streets.stay(x, 4 * shop, 1, 4 * shop + 1);
            }
            due("a TOLD's turn", x.turn(1), 0);
            due("a ONE's turn " + i, x.turn(0), due[i]);
            dueBests(x, "taken", 1, 5, 9);
            due("again", x.turn(0), 0);
            x.merge(1, 0);
            due("without shops", x.turn(0), 0);
        }
    }

    private static void inThatWasOut() {
        edge(13, "and 1 more, if it is IN that was OUT, or OUT that was IN");
        ShopsAsOne x = Streets.owners(4, 2);
        x.shop(0, 0, 0, 1);
        x.shop(0, 4, 0, 1);
        x.shop(0, 9, 0, 1);
        due("OUT that stays OUT, at prices that are not its best", x.turn(0), 0);
        Streets.stay(x, 0, 1, 5);
        due("three others, and IN", x.turn(0), 4);
        due("IN that stays IN", x.turn(0), 0);
        x.price(1, 6);
        due("IN that stays IN, one other", x.turn(0), 1);
        x.shop(1, 0, 0, 0);
        x.price(2, 7);
        due("OUT, and prices stay", x.turn(0), 1);
        due("as it was", x.about(2, 3), 7);
        due("OUT that stays OUT", x.turn(0), 0);
        ShopsAsOne y = lone(4, 0, 5, 1, 5);
        due("IN alone", y.turn(0), 1);
        y.owner(2, 0);
        y.merge(1, 0);
        due("without shops it is OUT", y.turn(0), 1);
        due("and stays so", y.turn(0), 0);
        for (int owner : beside(0, 1)) {
            refused(y, "turn(" + owner + ")", z -> z.turn(owner), UNKNOWN);
        }
    }

    private static void nothingToRest() {
        edge(14, "ROUNDS are gone until one changes nothing: that many less 1");
        ShopsAsOne x = new ShopsAsOne();
        due("no owners", x.rest(), 0);
        x.sort(0, 1, 0, 0, NONE, 0);
        due("people alone", x.rest(), 0);
        x.owner(0, 0);
        due("no shops", x.rest(), 0);
        due("told", lone(2, 0, 3, 1, 9).rest(), 0);
        due("at its best", lone(0, 0, 9, 1, 9).rest(), 0);
        ShopsAsOne y = lone(0, 0, 3, 1, 9);
        due("one", y.rest(), 1);
        due("again", y.rest(), 0);
        ShopsAsOne z = lone(4, 8, 9, 1, 9);
        due("IN alone is a change", z.rest(), 1);
        due("IN", z.about(0, 4), 1);
        due("a price that brings nothing else is a change", lone(0, 0, 3, 1, 0).rest(), 1);
    }

    private static void twentyRounds() {
        edge(14, "if 20 all change something, it does not rest; STATE (nothing is changed)");
        ShopsAsOne x = Streets.nineteen();
        for (int round = 0; round < 20; round++) {
            due("a change in round " + round, changes(x) > 0 ? 1 : 0, round < 19 ? 1 : 0);
        }
        due("19 rounds", Streets.nineteen().rest(), 19);
        ShopsAsOne y = Streets.twenty();
        refused(y, "20 rounds", z -> z.rest(), STATE);
        due("a round by turns", changes(y) > 0 ? 1 : 0, 1);
        due("19 rounds are left", y.rest(), 19);
        ShopsAsOne w = Streets.restless(Streets.owners(0, 0), 0, 1);
        refused(w, "for ever", z -> z.rest(), STATE);
        refused(w, "for ever, again", z -> z.rest(), STATE);
        due("their price, still", w.about(1, 3), 5);
    }

    private static int changes(ShopsAsOne x) {
        int changes = 0;
        for (int owner = 0; owner < x.count(0); owner++) {
            changes += x.turn(owner);
        }
        return changes;
    }

    private static void leastWhoGains() {
        edge(15, "OTHERWISE: the least OWNER whose GAIN is above 0; NONE: nobody would");
        due("no owners", new ShopsAsOne().otherwise(), NONE);
        due("no shops", Streets.owners(0, 1, 2, 3, 4, 0).otherwise(), NONE);
        due("just 1", lone(0, 0, 2, 1, 3).otherwise(), 0);
        ShopsAsOne x = lone(0, 0, 5, 1, 0);
        due("another price, but 0 more", x.gain(0), 0);
        due("nobody", x.otherwise(), NONE);
        due("though it would not stay", x.turn(0), 1);
        ShopsAsOne y = Streets.owners(0, 0, 0, 0, 0, 0);
        for (int owner = 5; owner >= 3; owner--) {
            y.shop(owner, 4 * (owner - 3), 0, owner == 4 ? 0 : 9);
            Streets.stay(y, 4 * (owner - 3), 1, 9);
        }
        due("4 is the least", y.otherwise(), 4);
        y.turn(4);
        due("nobody any more", y.otherwise(), NONE);
        y.price(0, 8);
        due("the last one", y.otherwise(), 5);
        y.price(2, 8);
        due("3 is the least", y.otherwise(), 3);
    }

    private static void gainsAndLosses() {
        edge(16, "GAIN of an OWNER: PROFIT by its BEST less PROFIT as it is");
        ShopsAsOne x = new ShopsAsOne();
        x.owner(0, 0);
        x.shop(0, 0, 9, 0);
        x.shop(0, 0, 0, 9);
        for (int i = 0; i < 8; i++) {
            x.sort(0, 50, 0, 30, 1, 1);
        }
        due("3600 in place of -3600", x.gain(0), 7200);
        x.turn(0);
        due("at its best", x.gain(0), 0);
        due("told", lone(2, 0, 1, 10, 9).gain(0), 0);
        due("no shops", Streets.owners(0).gain(0), 0);
        ShopsAsOne y = Streets.owners(1);
        y.shop(0, 0, 0, 4);
        y.shop(0, 9, 0, 9);
        Streets.stay(y, 0, 10, 4);
        Streets.stay(y, 9, 10, 9);
        due("one price is worse than two", y.gain(0), -40);
        due("that is not above 0", y.otherwise(), NONE);
        for (int owner : beside(0, 0)) {
            refused(y, "gain(" + owner + ")", z -> z.gain(owner), NO_PROFIT);
        }
    }

    private static void gainsOfComers() {
        edge(16, "(PROFIT 0)");
        due("would come", lone(4, 49, 3, 10, 5).gain(0), 50);
        due("would not", lone(4, 50, 3, 10, 5).gain(0), 0);
        ShopsAsOne x = lone(4, 40, 3, 10, 5);
        x.turn(0);
        due("as it is", x.gain(0), 0);
        x.price(0, 4);
        due("10 more", x.gain(0), 10);
        x.owner(2, 0);
        x.shop(1, 0, 0, 4);
        due("at best it has 40, so it would go: 0 less 40", x.gain(0), -40);
        due("nobody would", x.otherwise(), NONE);
        ShopsAsOne y = Streets.owners(4);
        y.shop(0, 0, 5, 9);
        Streets.stay(y, 0, 10, 9);
        y.turn(0);
        y.owner(2, 0);
        y.shop(1, 0, 0, 4);
        y.price(0, 3);
        due("it would go: 0 less 10 times -2", y.gain(0), 20);
        due("so it would do otherwise", y.otherwise(), 0);
        due("and goes", y.turn(0), 1);
    }

    private static void marketsByK() {
        edge(17, "MARKET of a SHOP by k (1 to 5); if their PRICES are k more (9 at most)");
        ShopsAsOne x = lone(2, 0, 4, 10, 9);
        for (int least = 0; least <= 1; least++) {
            boolean isLeast = least == 1;
            due("k 1", x.market(0, 1, isLeast), 1);
            due("k 5", x.market(0, 5, isLeast), 1);
            for (int k : beside(1, 5)) {
                refused(x, "market(0, " + k + ")", y -> y.market(0, k, isLeast), OUTSIDE);
            }
            for (int shop : beside(0, 0)) {
                refused(x, "market(" + shop + ", 1)", y -> y.market(shop, 1, isLeast), UNKNOWN);
            }
            due("8 and 5 is 9", lone(2, 0, 8, 10, 9).market(0, 5, isLeast), 1);
            due("9 and 1 is 9", lone(2, 0, 9, 10, 9).market(0, 1, isLeast), 1);
            due("4 and 5 is 9, too much", lone(2, 0, 4, 10, 8).market(0, 5, isLeast), NONE);
            due("3 and 5 is 8", lone(2, 0, 3, 10, 8).market(0, 5, isLeast), 1);
        }
    }

    private static void noLessProfit() {
        edge(17, "the first set of SHOPS that together have no less PROFIT; NONE: no such set");
        int[] many = {19, 20, 21};
        int[] due = {NONE, 1, 1};
        for (int i = 0; i < 3; i++) {
            ShopsAsOne x = lone(2, 0, 2, 10, 2);
            Streets.stay(x, 0, many[i], 3);
            due(many[i] + " times 3 for " + (10 + many[i]) + " times 2", x.market(0, 1, false), due[i]);
            due("least", x.market(0, 1, true), due[i]);
        }
        ShopsAsOne y = Streets.owners(2);
        y.shop(0, 0, 9, 0);
        Streets.stay(y, 0, 10, 0);
        due("who sells below cost loses less", y.market(0, 1, false), 1);
        due("with nobody", lone(2, 0, 2, 10, 1).market(0, 1, false), 1);
    }

    /** All shops beside each other, and people who go to shop 0; shop 1's owner is of that kind. */
    private static ShopsAsOne six(int kind, int worth) {
        ShopsAsOne x = Streets.owners(2, kind, 2);
        int[] owners = {0, 1, 0, 0, 2, 2};
        for (int owner : owners) {
            x.shop(owner, 0, 0, 1);
        }
        x.sort(0, 10, 0, worth, NONE, 0);
        return x;
    }

    private static void marketsOfAll() {
        edge(17, "and so on; all sets of open SHOPS; STATE: it is shut; as bits");
        for (int k = 1; k <= 5; k++) {
            ShopsAsOne x = six(2, 1 + k);
            due("all six", x.market(0, k, false), 63);
            due("all six, least", x.market(0, k, true), 63);
            due("the last sells nothing", x.market(5, k, false), 32);
            due("the last sells nothing, least", x.market(5, k, true), 32);
            ShopsAsOne y = six(2, k);
            due("not worth it", y.market(0, k, false), NONE);
            due("not worth it, least", y.market(0, k, true), NONE);
            ShopsAsOne z = six(4, 1 + k);
            due("all but the shut one", z.market(0, k, false), 61);
            due("all but the shut one, least", z.market(0, k, true), 61);
            int more = k;
            refused(z, "the shut one", w -> w.market(1, more, false), STATE);
            refused(z, "the shut one, least", w -> w.market(1, more, true), STATE);
        }
    }

    private static void marketsOfComers() {
        edge(17, "STATE: it is shut; all sets of open SHOPS");
        ShopsAsOne x = lone(4, 0, 3, 10, 5);
        x.shop(0, 9, 0, 3);
        refused(x, "OUT", y -> y.market(0, 1, true), STATE);
        x.turn(0);
        due("IN, least", x.market(0, 4, true), NONE);
        x.price(0, 4);
        due("IN, least", x.market(0, 1, true), 1);
        due("IN", x.market(0, 1, false), 1);
        due("its other one", x.market(1, 5, true), 2);
        ShopsAsOne z = Streets.owners(4, 2);
        z.shop(0, 0, 0, 0);
        z.shop(1, 0, 0, 4);
        Streets.stay(z, 0, 10, 5);
        due("beside a shut one", z.market(1, 1, false), 2);
        due("beside a shut one, least", z.market(1, 1, true), 2);
    }

    private static void nearestFirst() {
        edge(17, "the nearest other open SHOP more (by PLACES, of like ones the least number)");
        int[][] told = {{2, 0}, {2, 0}};
        ShopsAsOne x = Streets.of(told, new int[][] {{0, 2, 0, 1}, {0, 9, 0, 9}, {0, 5, 0, 3}, {1, 5, 0, 9},
            {1, 7, 0, 9}, {1, 4, 0, 9}}, new int[][] {{5, 10, 1, 30, NONE, 0}});
        due("the rival 3 places away, behind those 0, 1, 2 away", x.market(2, 2, false), 61);
        due("the two alone", x.market(2, 2, true), 5);
        due("1 more is like the rival's, which has the least number", x.market(2, 1, false), 61);
        x.price(0, 2);
        due("now it is less", x.market(2, 1, false), 4);
    }

    private static void fewestThenLeastBits() {
        edge(17, "LEAST MARKET: of all sets of open SHOPS with that one one of fewest, of like ones of least bits");
        ShopsAsOne x = Streets.of(new int[][] {{2, 0}, {2, 0}}, new int[][] {{0, 2, 0, 2}, {0, 3, 0, 2}, {1, 4, 0, 1},
            {1, 1, 0, 3}}, new int[][] {{0, 10, 1, 9, NONE, 0}, {1, 10, 0, 9, NONE, 0}, {3, 20, 0, 9, NONE, 0}});
        due("of two at one distance first the lesser number", x.market(0, 1, false), 11);
        due("0 and 3 are 9, which is fewer than 0, 1, 2", x.market(0, 1, true), 9);
        ShopsAsOne y = Streets.of(new int[][] {{2, 0}}, new int[][] {{0, 2, 0, 2}, {0, 4, 0, 1}, {0, 6, 0, 2}},
            new int[][] {{3, 10, 1, 9, NONE, 0}, {5, 10, 1, 9, NONE, 0}});
        due("with either neighbour it is 20 times 1, then 10 times 3", y.market(1, 2, true), 3);
        due("of like ones the least number", y.market(1, 2, false), 3);
    }

    private static void costsAsTold() {
        edge(17, "COST as told, of a SPARING's SHOP, too");
        ShopsAsOne x = new ShopsAsOne();
        x.owner(3, 9);
        x.owner(2, 0);
        x.shop(0, 0, 5, 4);
        x.shop(1, 0, 0, 5);
        x.sort(0, 10, 0, 9, NONE, 0);
        due("0 for 10 times -1", x.market(0, 2, false), 1);
        due("0 for 10 times -1, least", x.market(0, 2, true), 1);
        due("its owner has 40", x.profit(0), 40);
    }

    private static void whereInstead() {
        edge(18, "where a SORT goes, if a SHOP is shut; NONE: it does without");
        ShopsAsOne x = Streets.owners(2, 4);
        x.shop(0, 0, 0, 3);
        x.sort(0, 10, 0, 5, NONE, 0);
        due("the only one", x.instead(0, 0), NONE);
        x.shop(0, 0, 0, 6);
        due("the other one is not worth it", x.instead(0, 0), NONE);
        x.price(1, 5);
        due("it just is", x.instead(0, 0), 1);
        x.shop(0, 0, 0, 5);
        due("of like ones the least number", x.instead(0, 0), 1);
        due("if it does not go there", x.instead(0, 1), 0);
        x.shop(1, 0, 0, 0);
        due("one is shut as it is", x.instead(0, 3), 0);
        due("nor do they go there", x.instead(0, 0), 1);
        for (int sort : beside(0, 0)) {
            refused(x, "instead(" + sort + ", 0)", y -> y.instead(sort, 0), UNKNOWN);
        }
        for (int shop : beside(0, 3)) {
            refused(x, "instead(0, " + shop + ")", y -> y.instead(0, shop), UNKNOWN);
        }
    }

    private static void fromOneToAnother() {
        edge(19, "how many would go to the other one of those who go to it, if it is shut");
        ShopsAsOne x = Streets.owners(2, 2, 4);
        x.shop(0, 0, 0, 1);
        x.shop(0, 0, 0, 2);
        x.shop(1, 0, 0, 3);
        x.shop(1, 0, 0, 9);
        x.shop(2, 0, 0, 0);
        due("nobody is there", x.from(0, 1), 0);
        for (int i = 0; i < 7; i++) {
            x.sort(0, 50, 0, 9, NONE, 0);
        }
        x.sort(0, 50, 0, 1, NONE, 0);
        due("one sort would do without", x.from(0, 1), 350);
        due("not to the third", x.from(0, 2), 0);
        due("nobody goes there", x.from(1, 0), 0);
        due("from the shut one", x.from(4, 0), 0);
        due("to the shut one", x.from(0, 4), 0);
        x.price(1, 1);
        due("all", x.from(0, 1), 400);
        x.price(1, 9);
        due("to the third", x.from(0, 2), 350);
        x.price(0, 9);
        due("from the third", x.from(2, 0), 350);
        due("to the last", x.from(2, 3), 0);
        x.price(3, 8);
        due("to the last", x.from(2, 3), 350);
        x.price(2, 9);
        due("from the last", x.from(3, 0), 350);
        due("no more from the third", x.from(2, 3), 0);
    }

    private static void fromRefused() {
        edge(19, "UNKNOWN: shop, other, or they are the same");
        ShopsAsOne x = six(2, 9);
        for (int shop = 0; shop < 6; shop++) {
            int same = shop;
            refused(x, "the same " + shop, y -> y.from(same, same), UNKNOWN);
        }
        for (int bad : beside(0, 5)) {
            refused(x, "from(" + bad + ", 0)", y -> y.from(bad, 0), UNKNOWN);
            refused(x, "from(0, " + bad + ")", y -> y.from(0, bad), UNKNOWN);
            refused(x, "the same " + bad, y -> y.from(bad, bad), UNKNOWN);
        }
    }

    public static void main(String[] args) {
        ofAllPrices();
        ofLikeOnes();
        onePriceForAll();
        comerAboveN();
        comerPricesStay();
        toldStay();
        othersAsTheyAre();
        bestRefused();
        pricesThatAreOthers();
        inThatWasOut();
        nothingToRest();
        twentyRounds();
        leastWhoGains();
        gainsAndLosses();
        gainsOfComers();
        marketsByK();
        noLessProfit();
        marketsOfAll();
        marketsOfComers();
        nearestFirst();
        fewestThenLeastBits();
        costsAsTold();
        whereInstead();
        fromOneToAnother();
        fromRefused();
        end();
    }
}
