import java.util.function.ToLongFunction;

/** Edges of promises 1 to 11: the street. */
public final class EdgesOfStreetTest extends Edges {
    private static void onNew(String what, ToLongFunction<ShopsAsOne> call, long want) {
        due(what, call.applyAsLong(new ShopsAsOne()), want);
    }

    private static void nothingIsThere() {
        edge(1, "No OWNERS, no SORTS.");
        for (int i = 0; i <= 6; i++) {
            int what = i;
            onNew("count(" + what + ")", x -> x.count(what), 0);
        }
        onNew("digest()", x -> x.digest(), 373L * 31 * 31 * 31 * 31 * 31 * 31 * 31);
        onNew("owner(0, 0)", x -> x.owner(0, 0), 0);
        onNew("sort(0, 1, 0, 0, NONE, 0)", x -> x.sort(0, 1, 0, 0, NONE, 0), 0);
        onNew("sort that likes shop 0", x -> x.sort(0, 1, 0, 0, 0, 0), UNKNOWN);
        onNew("as(0, 0)", x -> x.as(0, 0), UNKNOWN);
        onNew("shop(0, 0, 0, 0)", x -> x.shop(0, 0, 0, 0), UNKNOWN);
        onNew("about(0, 0)", x -> x.about(0, 0), UNKNOWN);
        onNew("price(0, 0)", x -> x.price(0, 0), UNKNOWN);
        onNew("is(0, 0)", x -> x.is(0, 0), NO_IS);
        onNew("goes(0)", x -> x.goes(0), UNKNOWN);
        onNew("spare(0)", x -> x.spare(0), UNKNOWN);
        onNew("profit(0)", x -> x.profit(0), NO_PROFIT);
    }

    private static void nothingIsDone() {
        edge(1, "No OWNERS, no SORTS.");
        onNew("best(0, 0)", x -> x.best(0, 0), UNKNOWN);
        onNew("turn(0)", x -> x.turn(0), UNKNOWN);
        onNew("rest()", x -> x.rest(), 0);
        onNew("otherwise()", x -> x.otherwise(), NONE);
        onNew("gain(0)", x -> x.gain(0), NO_PROFIT);
        onNew("market(0, 1, true)", x -> x.market(0, 1, true), UNKNOWN);
        onNew("instead(0, 0)", x -> x.instead(0, 0), UNKNOWN);
        onNew("from(0, 1)", x -> x.from(0, 1), UNKNOWN);
        onNew("merge(0, 1)", x -> x.merge(0, 1), UNKNOWN);
        onNew("dearer(0, 1, 0)", x -> x.dearer(0, 1, 0), NO_IS);
        onNew("harm(0, 1, 0)", x -> x.harm(0, 1, 0), UNKNOWN);
        onNew("soldOff(0, 1, 2, 0)", x -> x.soldOff(0, 1, 2, 0), UNKNOWN);
        onNew("twice(0, 1, 2, 3, 0)", x -> x.twice(0, 1, 2, 3, 0), UNKNOWN);
        onNew("letters(0)", x -> x.letters(0), 0);
        onNew("blank()", x -> x.blank(), 0);
        onNew("fault()", x -> x.fault(), 0);
        onNew("test()", x -> x.test(), STATE);
        onNew("bars(0, 0, 1)", x -> x.bars(0, 0, 1), UNKNOWN);
        onNew("wrong(0, 0)", x -> x.wrong(0, 0), UNKNOWN);
        onNew("restore()", x -> x.restore(), STATE);
        onNew("image()", x -> x.image(), 0);
    }

    private static void kindsOfOwners() {
        edge(2, "OWNERS are of KINDS: 0 ONE, 1 CHAIN, 2 TOLD, 3 SPARING, 4 COMER");
        for (int kind = 0; kind <= 4; kind++) {
            due("owner(" + kind + ", 0)", new ShopsAsOne().owner(kind, 0), 0);
        }
        ShopsAsOne x = new ShopsAsOne();
        for (int kind : beside(0, 4)) {
            refused(x, "owner(" + kind + ", 0)", y -> y.owner(kind, 0), OUTSIDE);
        }
        due("owners", x.count(0), 0);
    }

    private static void numbersOfOwners() {
        edge(2, "with a number n (0 to 99)");
        due("owner(0, 0)", new ShopsAsOne().owner(0, 0), 0);
        due("owner(4, 99)", new ShopsAsOne().owner(4, 99), 0);
        ShopsAsOne x = new ShopsAsOne();
        for (int n : beside(0, 99)) {
            refused(x, "owner(4, " + n + ")", y -> y.owner(4, n), OUTSIDE);
        }
        due("owners", x.count(0), 0);
    }

    private static void sixOwners() {
        edge(2, "OWNERS (6 at most, numbered)");
        ShopsAsOne x = new ShopsAsOne();
        for (int i = 0; i < 6; i++) {
            due("owner " + i, x.owner(0, 0), i);
            due("owners", x.count(0), i + 1);
        }
        refused(x, "a seventh", y -> y.owner(0, 0), FULL);
        refused(x, "an eighth", y -> y.owner(4, 99), FULL);
        due("owners", x.count(0), 6);
    }

    private static void allAreOne() {
        edge(3, "All are ONE; a COMER is a CHAIN, too.");
        ShopsAsOne x = Streets.owners(4, 3, 2, 1, 0);
        int[][] taken = {{0, 0, NONE, NONE, 0}, {1, NONE, NONE, 1, NONE}, {2, NONE, 2, NONE, NONE},
            {3, 3, NONE, NONE, NONE}, {4, NONE, NONE, NONE, NONE}};
        for (int owner = 0; owner < 5; owner++) {
            for (int kind = 0; kind <= 4; kind++) {
                due("as(" + owner + ", " + kind + ")", x.as(owner, kind), taken[owner][kind]);
            }
        }
    }

    private static void asOfNoOwner() {
        edge(3, "UNKNOWN; OUTSIDE.");
        ShopsAsOne x = Streets.owners(4, 4, 4, 4, 4, 4);
        due("the last owner", x.as(5, 4), 5);
        for (int owner : beside(0, 5)) {
            refused(x, "as(" + owner + ", 0)", y -> y.as(owner, 0), UNKNOWN);
        }
        for (int kind : beside(0, 4)) {
            refused(x, "as(0, " + kind + ")", y -> y.as(0, kind), OUTSIDE);
        }
    }

    private static void placesCostsPrices() {
        edge(4, "PLACES 0 to 9; a COST (0 to 9), a PRICE (0 to 9)");
        ShopsAsOne x = Streets.owners(0, 0);
        due("all least", x.shop(0, 0, 0, 0), 0);
        due("all most", x.shop(1, 9, 9, 9), 1);
        for (int what = 1; what <= 3; what++) {
            due("least " + what, x.about(0, what), 0);
            due("most " + what, x.about(1, what), 9);
        }
        for (int bad : beside(0, 9)) {
            refused(x, "place " + bad, y -> y.shop(0, bad, 0, 0), OUTSIDE);
            refused(x, "cost " + bad, y -> y.shop(0, 0, bad, 0), OUTSIDE);
            refused(x, "price " + bad, y -> y.shop(0, 0, 0, bad), OUTSIDE);
        }
        due("shops", x.count(1), 2);
    }

    private static void shopsOfNoOwner() {
        edge(4, "UNKNOWN: owner");
        ShopsAsOne x = Streets.owners(0, 0);
        for (int owner : beside(0, 1)) {
            refused(x, "shop of " + owner, y -> y.shop(owner, 0, 0, 0), UNKNOWN);
        }
        due("of the last owner", x.shop(1, 0, 0, 0), 0);
    }

    private static void threeShopsOfOne() {
        edge(4, "an OWNER (3 of one at most); FULL (also: it has 3)");
        ShopsAsOne x = Streets.owners(0, 0);
        for (int i = 0; i < 3; i++) {
            due("shop " + i, x.shop(0, 0, 0, 0), i);
        }
        refused(x, "a fourth of one", y -> y.shop(0, 0, 0, 0), FULL);
        due("of the other one", x.shop(1, 0, 0, 0), 3);
    }

    private static void threeShopsByMerging() {
        edge(4, "FULL (also: it has 3); b has none");
        ShopsAsOne x = Streets.owners(0, 0);
        x.shop(0, 0, 0, 0);
        x.shop(1, 0, 0, 0);
        x.shop(1, 0, 0, 0);
        x.merge(0, 1);
        refused(x, "a fourth of a", y -> y.shop(0, 0, 0, 0), FULL);
        for (int i = 3; i < 6; i++) {
            due("b has none and may have three", x.shop(1, 0, 0, 0), i);
        }
        due("the last one's owner", x.about(5, 0), 1);
    }

    private static void sixShops() {
        edge(4, "SHOPS (6 at most, numbered)");
        ShopsAsOne x = Streets.owners(0, 0, 0, 0, 0, 4);
        for (int i = 0; i < 6; i++) {
            due("shop " + i, x.shop(i, i, 0, 0), i);
            due("shops", x.count(1), i + 1);
        }
        for (int i = 0; i < 6; i++) {
            int owner = i;
            refused(x, "a seventh of " + owner, y -> y.shop(owner, 0, 0, 0), FULL);
        }
        due("shops", x.count(1), 6);
    }

    private static void whatIsToldAboutShops() {
        edge(5, "Of a SHOP: what = 0 OWNER, 1 PLACE, 2 COST, 3 PRICE, 4 whether it is open (1, 0), 5 SOLD.");
        ShopsAsOne x = Streets.owners(0, 0, 0, 0, 0, 2);
        x.shop(5, 9, 8, 7);
        Streets.stay(x, 9, 50, 7);
        int[] told = {5, 9, 8, 7, 1, 50};
        for (int what = 0; what <= 5; what++) {
            due("about(0, " + what + ")", x.about(0, what), told[what]);
        }
        for (int what : beside(0, 5)) {
            refused(x, "about(0, " + what + ")", y -> y.about(0, what), OUTSIDE);
        }
        for (int shop : beside(0, 0)) {
            refused(x, "about(" + shop + ", 0)", y -> y.about(shop, 0), UNKNOWN);
        }
    }

    private static void whoIsOpen() {
        edge(5, "OUT at first; its SHOPS are open just if it is IN, all others always");
        ShopsAsOne x = Streets.owners(0, 1, 2, 3, 4);
        for (int kind = 0; kind <= 4; kind++) {
            x.shop(kind, 0, 0, 0);
            due("a shop of kind " + kind, x.about(kind, 4), kind == 4 ? 0 : 1);
        }
        x.shop(4, 9, 0, 9);
        x.sort(0, 1, 0, 0, 4, 9);
        due("a price of 8 is less than 0 to who likes it by 9", x.turn(4), 3);
        due("open, for it is IN", x.about(4, 4), 1);
        due("the other one, too", x.about(5, 4), 1);
        due("at the same price", x.about(5, 3), 8);
    }

    private static void allThatIsSold() {
        edge(5, "SOLD: to how many a SHOP sells");
        ShopsAsOne x = Streets.owners(0);
        x.shop(0, 0, 0, 0);
        x.shop(0, 0, 0, 0);
        due("without people", x.about(0, 5), 0);
        for (int i = 1; i <= 8; i++) {
            Streets.stay(x, 0, 50, 0);
            due("sold", x.about(0, 5), 50 * i);
        }
        due("sold by the other one", x.about(1, 5), 0);
        x.price(0, 1);
        due("sold by who is dearer", x.about(0, 5), 0);
        due("sold by the other one", x.about(1, 5), 400);
    }

    private static void pricesBecome() {
        edge(6, "The PRICE of a SHOP becomes v: what it was.");
        ShopsAsOne x = Streets.owners(4, 2);
        x.shop(0, 0, 0, 5);
        x.shop(1, 0, 0, 5);
        for (int shop = 0; shop <= 1; shop++) {
            due("to the most", x.price(shop, 9), 5);
            due("as it is", x.price(shop, 9), 9);
            due("to the least", x.price(shop, 0), 9);
            due("and back", x.price(shop, 5), 0);
            due("it is", x.about(shop, 3), 5);
        }
        for (int v : beside(0, 9)) {
            refused(x, "price(1, " + v + ")", y -> y.price(1, v), OUTSIDE);
        }
        for (int shop : beside(0, 1)) {
            refused(x, "price(" + shop + ", 0)", y -> y.price(shop, 0), UNKNOWN);
        }
    }

    private static void whatSortsAre() {
        edge(7, "a PLACE, how MANY they are (1 to 50), a WAY (0 to 5), a WORTH (0 to 30), by how much (0 to 9)");
        ShopsAsOne x = Streets.owners(0);
        x.shop(0, 0, 0, 0);
        due("all least", x.sort(0, 1, 0, 0, NONE, 0), 0);
        due("all most", x.sort(9, 50, 5, 30, 0, 9), 1);
        for (int bad : beside(0, 9)) {
            refused(x, "place " + bad, y -> y.sort(bad, 1, 0, 0, NONE, 0), OUTSIDE);
            refused(x, "liking " + bad, y -> y.sort(0, 1, 0, 0, NONE, bad), OUTSIDE);
            refused(x, "liking shop 0 by " + bad, y -> y.sort(0, 1, 0, 0, 0, bad), OUTSIDE);
        }
        for (int bad : beside(1, 50)) {
            refused(x, "many " + bad, y -> y.sort(0, bad, 0, 0, NONE, 0), OUTSIDE);
        }
        for (int bad : beside(0, 5)) {
            refused(x, "way " + bad, y -> y.sort(0, 1, bad, 0, NONE, 0), OUTSIDE);
        }
        for (int bad : beside(0, 30)) {
            refused(x, "worth " + bad, y -> y.sort(0, 1, 0, bad, NONE, 0), OUTSIDE);
        }
        due("sorts", x.count(2), 2);
    }

    private static void whatSortsLike() {
        edge(7, "UNKNOWN: liked (NONE: none)");
        ShopsAsOne x = Streets.owners(0, 4);
        due("none there to like", x.sort(0, 1, 0, 0, 0, 0), UNKNOWN);
        due("none, by much", x.sort(0, 1, 0, 0, NONE, 9), 0);
        x.shop(0, 0, 0, 0);
        x.shop(1, 0, 0, 0);
        due("the last, which is shut", x.sort(0, 1, 0, 0, 1, 9), 1);
        for (int liked : new int[] {2, -2, 255, -257, 65536, Integer.MIN_VALUE, Integer.MAX_VALUE}) {
            refused(x, "liked " + liked, y -> y.sort(0, 1, 0, 0, liked, 0), UNKNOWN);
        }
        x.shop(0, 0, 0, 0);
        due("the last that came", x.sort(0, 1, 0, 0, 2, 0), 2);
    }

    private static void eightSorts() {
        edge(7, "SORTS of people (8 at most, numbered)");
        ShopsAsOne x = new ShopsAsOne();
        for (int i = 0; i < 8; i++) {
            due("sort " + i, x.sort(0, 1, 0, 0, NONE, 0), i);
            due("sorts", x.count(2), i + 1);
        }
        refused(x, "a ninth", y -> y.sort(0, 1, 0, 0, NONE, 0), FULL);
        refused(x, "a tenth", y -> y.sort(9, 50, 5, 30, NONE, 9), FULL);
        due("sorts", x.count(2), 8);
    }

    private static void whatShopsAre() {
        edge(8, "its PRICE, and WAY times how many PLACES away it is, less what they LIKE it by, if it is that");
        ShopsAsOne x = Streets.owners(0);
        x.shop(0, 9, 0, 9);
        x.shop(0, 0, 0, 0);
        x.sort(0, 1, 5, 0, 1, 9);
        x.sort(9, 1, 5, 0, NONE, 9);
        x.sort(9, 1, 0, 0, 0, 0);
        due("most: 9, and 5 times 9", x.is(0, 0), 54);
        due("least: 0 less 9", x.is(0, 1), -9);
        due("where they are", x.is(1, 0), 9);
        due("to the other end", x.is(1, 1), 45);
        due("no way, liked by 0", x.is(2, 0), 9);
        due("no way, not liked", x.is(2, 1), 0);
        x.shop(0, 8, 0, 1);
        due("of a shop that came behind", x.is(0, 2), 41);
        due("one place away", x.is(1, 2), 6);
    }

    private static void shopsBehindAllSorts() {
        edge(8, "SORTS of people (8 at most), SHOPS (6 at most)");
        ShopsAsOne x = Streets.owners(0, 0);
        for (int i = 0; i < 8; i++) {
            x.sort(i, 1, 1, 9, NONE, 9);
        }
        for (int shop = 0; shop < 6; shop++) {
            due("behind eight sorts", x.shop(shop % 2, 9 - shop, 0, shop), shop);
            due("to the first", x.is(0, shop), 9);
            due("to the last", x.is(7, shop), shop + Math.abs(2 - shop));
        }
    }

    private static void whatNothingIs() {
        edge(8, "-1001: UNKNOWN.");
        ShopsAsOne x = Streets.owners(0);
        x.shop(0, 9, 0, 9);
        x.shop(0, 0, 0, 0);
        x.sort(0, 1, 5, 0, 1, 9);
        for (int sort : beside(0, 0)) {
            refused(x, "is(" + sort + ", 1)", y -> y.is(sort, 1), NO_IS);
        }
        for (int shop : beside(0, 1)) {
            refused(x, "is(0, " + shop + ")", y -> y.is(0, shop), NO_IS);
        }
        refused(x, "is(1, 2)", y -> y.is(1, 2), NO_IS);
    }

    private static void nowhereToGo() {
        edge(9, "They GO to the open SHOP that IS least; NONE: it does without");
        ShopsAsOne x = Streets.owners(4, 0);
        x.sort(0, 1, 0, 30, NONE, 0);
        due("no shop", x.goes(0), NONE);
        x.shop(0, 0, 0, 0);
        due("all are shut", x.goes(0), NONE);
        x.shop(1, 0, 0, 9);
        due("the open one, though it is more", x.goes(0), 1);
        for (int sort : beside(0, 0)) {
            refused(x, "goes(" + sort + ")", y -> y.goes(sort), UNKNOWN);
        }
    }

    private static void likeOnes() {
        edge(9, "of like ones the least number");
        ShopsAsOne x = Streets.owners(0, 4, 0);
        x.shop(1, 5, 0, 4);
        x.shop(0, 4, 0, 4);
        x.shop(0, 6, 0, 4);
        x.shop(2, 5, 0, 5);
        x.sort(5, 1, 1, 9, NONE, 0);
        due("three are 5, number 0 is shut", x.goes(0), 1);
        x.price(3, 4);
        due("one less", x.goes(0), 3);
        x.price(2, 3);
        due("two are 4", x.goes(0), 2);
        x.price(1, 3);
        due("three are 4", x.goes(0), 1);
    }

    private static void worthAtMost() {
        edge(9, "if that is WORTH at most; else they do without");
        ShopsAsOne x = Streets.owners(0);
        x.shop(0, 9, 0, 0);
        x.sort(9, 1, 0, 0, NONE, 0);
        x.sort(1, 1, 3, 30, NONE, 0);
        x.sort(9, 1, 0, 0, 0, 9);
        due("0 is worth 0", x.goes(0), 0);
        x.price(0, 1);
        due("1 is not", x.goes(0), NONE);
        x.price(0, 6);
        due("24 and 6 is 30", x.goes(1), 0);
        x.price(0, 7);
        due("31 is not", x.goes(1), NONE);
        x.price(0, 9);
        due("9 less 9 is worth 0", x.goes(2), 0);
    }

    private static void whatIsSpared() {
        edge(10, "WORTH less what it IS (0 of those who do without)");
        ShopsAsOne x = Streets.owners(0);
        x.sort(0, 1, 0, 30, NONE, 0);
        due("no shop", x.spare(0), 0);
        x.shop(0, 0, 0, 9);
        x.sort(0, 1, 0, 9, NONE, 0);
        x.sort(0, 1, 0, 8, NONE, 0);
        x.sort(0, 1, 0, 10, NONE, 0);
        due("much", x.spare(0), 21);
        due("just worth it", x.spare(1), 0);
        due("without", x.spare(2), 0);
        due("one", x.spare(3), 1);
        for (int sort : beside(0, 3)) {
            refused(x, "spare(" + sort + ")", y -> y.spare(sort), UNKNOWN);
        }
    }

    private static void moreThanWorth() {
        edge(10, "(What IS below 0 gives more than WORTH.)");
        ShopsAsOne x = Streets.owners(0);
        x.shop(0, 0, 0, 0);
        x.sort(0, 1, 5, 30, 0, 9);
        x.sort(0, 1, 5, 0, 0, 9);
        due("30 and 9", x.spare(0), 39);
        due("0 and 9", x.spare(1), 9);
        x.price(0, 9);
        due("just what it is worth", x.spare(0), 30);
        due("nothing", x.spare(1), 0);
        x.price(0, 8);
        due("30 and 1", x.spare(0), 31);
    }

    private static void mostAndLeastProfit() {
        edge(11, "SOLD times (PRICE less COST)");
        ShopsAsOne x = Streets.owners(0, 2);
        due("no shops", x.profit(0), 0);
        x.shop(0, 0, 0, 9);
        x.shop(1, 9, 9, 0);
        due("no people", x.profit(0), 0);
        for (int i = 0; i < 8; i++) {
            x.sort(0, 50, 0, 30, 0, 9);
        }
        due("most: 400 times 9", x.profit(0), 3600);
        due("nothing sold", x.profit(1), 0);
        x.merge(1, 0);
        due("of two shops", x.profit(1), 3600);
        due("none now", x.profit(0), 0);
        ShopsAsOne y = Streets.owners(0);
        y.shop(0, 9, 9, 0);
        for (int i = 0; i < 8; i++) {
            Streets.stay(y, 9, 50, 0);
        }
        due("least: 400 times 9", y.profit(0), -3600);
        y.price(0, 9);
        due("not worth it", y.profit(0), 0);
        for (int owner : beside(0, 0)) {
            refused(y, "profit(" + owner + ")", z -> z.profit(owner), NO_PROFIT);
        }
    }

    private static void sparingCost() {
        edge(11, "of a SPARING COST is n less (0 at least)");
        int[] n = {0, 1, 4, 5, 6, 99};
        int[] due = {20, 30, 60, 70, 70, 70};
        for (int i = 0; i < n.length; i++) {
            for (int kind = 0; kind <= 3; kind++) {
                ShopsAsOne x = new ShopsAsOne();
                x.owner(kind, n[i]);
                x.shop(0, 0, 5, 7);
                Streets.stay(x, 0, 10, 7);
                due("kind " + kind + ", n " + n[i], x.profit(0), kind == 3 ? due[i] : 20);
            }
        }
        ShopsAsOne x = new ShopsAsOne();
        x.owner(3, 9);
        x.owner(3, 1);
        x.shop(0, 0, 9, 9);
        Streets.stay(x, 0, 10, 9);
        due("n 9 of 9", x.profit(0), 90);
        x.merge(1, 0);
        due("n 1 of 9, of who has it now", x.profit(1), 10);
    }

    private static void openShopsTogether() {
        edge(11, "PROFIT of an OWNER: of its open SHOPS together");
        ShopsAsOne x = Streets.owners(4, 0);
        x.shop(0, 0, 0, 2);
        x.shop(0, 9, 1, 2);
        x.shop(1, 5, 0, 2);
        Streets.stay(x, 0, 10, 3);
        Streets.stay(x, 9, 20, 3);
        Streets.stay(x, 5, 40, 3);
        due("OUT", x.profit(0), 0);
        x.turn(0);
        due("IN: 10 times 3, 20 times 2", x.profit(0), 70);
        due("the other one's", x.profit(1), 80);
    }

    public static void main(String[] args) {
        nothingIsThere();
        nothingIsDone();
        kindsOfOwners();
        numbersOfOwners();
        sixOwners();
        allAreOne();
        asOfNoOwner();
        placesCostsPrices();
        shopsOfNoOwner();
        threeShopsOfOne();
        threeShopsByMerging();
        sixShops();
        whatIsToldAboutShops();
        whoIsOpen();
        allThatIsSold();
        pricesBecome();
        whatSortsAre();
        whatSortsLike();
        eightSorts();
        whatShopsAre();
        shopsBehindAllSorts();
        whatNothingIs();
        nowhereToGo();
        likeOnes();
        worthAtMost();
        whatIsSpared();
        moreThanWorth();
        mostAndLeastProfit();
        sparingCost();
        openShopsTogether();
        end();
    }
}
