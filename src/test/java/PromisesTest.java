/** Each promise by runs that were reckoned by hand: ordinary inputs, edges, wrong inputs. */
public final class PromisesTest extends Edges {
    private static void promise(int number) {
        edge(number, "by hand");
    }

    /** A refused call answers so, and changes nothing that is told. */
    private static void refused(ShopsAsOne x, long before, String what, long got, long want) {
        due(what, got, want);
        due("digest behind " + what, x.digest(), before);
    }

    private static void newObject() {
        promise(1);
        ShopsAsOne x = new ShopsAsOne();
        for (int what = 0; what <= 6; what++) {
            due("count " + what, x.count(what), 0);
        }
        due("digest", x.digest(), 10262205063403L);
        due("rest", x.rest(), 0);
        due("otherwise", x.otherwise(), NONE);
        due("fault", x.fault(), 0);
        due("restore", x.restore(), STATE);
    }

    private static void owners() {
        promise(2);
        ShopsAsOne x = new ShopsAsOne();
        long none = x.digest();
        refused(x, none, "owner(-1, 0)", x.owner(-1, 0), OUTSIDE);
        refused(x, none, "owner(5, 0)", x.owner(5, 0), OUTSIDE);
        refused(x, none, "owner(0, -1)", x.owner(0, -1), OUTSIDE);
        refused(x, none, "owner(0, 100)", x.owner(0, 100), OUTSIDE);
        int[] n = {0, 99, 1, 98, 50, 0};
        for (int i = 0; i < 6; i++) {
            due("owner " + i, x.owner(i % 5, n[i]), i);
        }
        long six = x.digest();
        refused(x, six, "a seventh", x.owner(0, 0), FULL);
        refused(x, six, "a seventh of no kind", x.owner(5, 0), OUTSIDE);
        due("owners", x.count(0), 6);
        promise(3);
        int[][] kinds = {{0, -1, -1, -1, -1}, {1, 1, -1, -1, -1}, {2, -1, 2, -1, -1}, {3, -1, -1, 3, -1}, {4, 4, -1, -1, 4}};
        for (int owner = 0; owner < 5; owner++) {
            for (int kind = 0; kind < 5; kind++) {
                due("as(" + owner + ", " + kind + ")", x.as(owner, kind), kinds[owner][kind]);
            }
        }
        due("as(5, 0)", x.as(5, 0), 5);
        due("as(6, 0)", x.as(6, 0), UNKNOWN);
        due("as(-1, 9)", x.as(-1, 9), UNKNOWN);
        due("as(0, 5)", x.as(0, 5), OUTSIDE);
        due("as(0, -1)", x.as(0, -1), OUTSIDE);
    }

    private static void shops() {
        promise(4);
        ShopsAsOne x = new ShopsAsOne();
        due("no owner yet", x.shop(0, 0, 0, 0), UNKNOWN);
        x.owner(0, 0);
        x.owner(4, 0);
        x.owner(0, 0);
        long none = x.digest();
        refused(x, none, "owner 3", x.shop(3, 10, 0, 0), UNKNOWN);
        refused(x, none, "owner -1", x.shop(-1, 0, 0, 0), UNKNOWN);
        refused(x, none, "place 10", x.shop(0, 10, 0, 0), OUTSIDE);
        refused(x, none, "place -1", x.shop(0, -1, 0, 0), OUTSIDE);
        refused(x, none, "cost 10", x.shop(0, 0, 10, 0), OUTSIDE);
        refused(x, none, "cost -1", x.shop(0, 0, -1, 0), OUTSIDE);
        refused(x, none, "price 10", x.shop(0, 0, 0, 10), OUTSIDE);
        refused(x, none, "price -1", x.shop(0, 0, 0, -1), OUTSIDE);
        due("shop", x.shop(0, 9, 8, 7), 0);
        due("shop", x.shop(1, 0, 9, 0), 1);
        due("shop", x.shop(0, 3, 0, 9), 2);
        due("shop", x.shop(0, 3, 0, 9), 3);
        long four = x.digest();
        refused(x, four, "a fourth of one", x.shop(0, 3, 0, 9), FULL);
        refused(x, four, "a fourth of one, outside", x.shop(0, 3, 0, 10), OUTSIDE);
        due("shop", x.shop(2, 3, 0, 9), 4);
        due("shop", x.shop(1, 3, 0, 9), 5);
        long six = x.digest();
        refused(x, six, "a seventh", x.shop(2, 3, 0, 9), FULL);
        promise(5);
        int[] first = {0, 9, 8, 7, 1, 0};
        int[] second = {1, 0, 9, 0, 0, 0};
        for (int what = 0; what <= 5; what++) {
            due("about(0, " + what + ")", x.about(0, what), first[what]);
            due("about(1, " + what + ")", x.about(1, what), second[what]);
        }
        due("about(6, 0)", x.about(6, 0), UNKNOWN);
        due("about(-1, 9)", x.about(-1, 9), UNKNOWN);
        due("about(0, 6)", x.about(0, 6), OUTSIDE);
        due("about(0, -1)", x.about(0, -1), OUTSIDE);
        x.sort(9, 7, 0, 30, NONE, 0);
        x.sort(9, 5, 0, 30, NONE, 0);
        due("sold", x.about(0, 5), 12);
        due("sold by another", x.about(2, 5), 0);
        promise(6);
        due("price", x.price(0, 9), 7);
        due("price", x.about(0, 3), 9);
        due("price", x.price(0, 0), 9);
        long cheap = x.digest();
        refused(x, cheap, "price 10", x.price(0, 10), OUTSIDE);
        refused(x, cheap, "price -1", x.price(0, -1), OUTSIDE);
        refused(x, cheap, "shop 6", x.price(6, 10), UNKNOWN);
        refused(x, cheap, "shop -1", x.price(-1, 0), UNKNOWN);
        due("a shut shop has a price, too", x.price(1, 4), 0);
        due("of it", x.about(1, 3), 4);
    }

    private static void sorts() {
        promise(7);
        ShopsAsOne x = new ShopsAsOne();
        x.owner(0, 0);
        x.shop(0, 5, 0, 5);
        long none = x.digest();
        refused(x, none, "place -1", x.sort(-1, 1, 0, 0, NONE, 0), OUTSIDE);
        refused(x, none, "place 10", x.sort(10, 1, 0, 0, NONE, 0), OUTSIDE);
        refused(x, none, "many 0", x.sort(0, 0, 0, 0, NONE, 0), OUTSIDE);
        refused(x, none, "many 51", x.sort(0, 51, 0, 0, NONE, 0), OUTSIDE);
        refused(x, none, "way -1", x.sort(0, 1, -1, 0, NONE, 0), OUTSIDE);
        refused(x, none, "way 6", x.sort(0, 1, 6, 0, NONE, 0), OUTSIDE);
        refused(x, none, "worth -1", x.sort(0, 1, 0, -1, NONE, 0), OUTSIDE);
        refused(x, none, "worth 31", x.sort(0, 1, 0, 31, NONE, 0), OUTSIDE);
        refused(x, none, "liking -1", x.sort(0, 1, 0, 0, NONE, -1), OUTSIDE);
        refused(x, none, "liking 10", x.sort(0, 1, 0, 0, NONE, 10), OUTSIDE);
        refused(x, none, "liked 1", x.sort(0, 1, 0, 0, 1, 0), UNKNOWN);
        refused(x, none, "liked -2", x.sort(0, 1, 0, 0, -2, 0), UNKNOWN);
        refused(x, none, "liked 1, many 0", x.sort(0, 0, 0, 0, 1, 0), OUTSIDE);
        due("sort", x.sort(0, 1, 0, 0, NONE, 0), 0);
        due("sort", x.sort(9, 50, 5, 30, 0, 9), 1);
        for (int i = 2; i < 8; i++) {
            due("sort", x.sort(0, 1, 0, 0, NONE, 9), i);
        }
        long eight = x.digest();
        refused(x, eight, "a ninth", x.sort(0, 1, 0, 0, NONE, 0), FULL);
        refused(x, eight, "a ninth, liked 1", x.sort(0, 1, 0, 0, 1, 0), UNKNOWN);
        refused(x, eight, "a ninth, many 51", x.sort(0, 51, 0, 0, 0, 0), OUTSIDE);
    }

    private static void whatAShopIs() {
        promise(8);
        ShopsAsOne x = new ShopsAsOne();
        x.owner(0, 0);
        x.owner(4, 0);
        x.shop(0, 5, 0, 5);
        x.shop(1, 2, 0, 3);
        x.sort(8, 10, 2, 20, NONE, 9);
        x.sort(3, 10, 3, 10, 0, 4);
        x.sort(5, 10, 5, 0, 0, 9);
        due("from the right", x.is(0, 0), 11);
        due("from the left, liked", x.is(1, 0), 7);
        due("not liked, shut", x.is(1, 1), 6);
        due("below 0", x.is(2, 0), -4);
        due("sort 3", x.is(3, 0), -1001);
        due("sort -1", x.is(-1, 0), -1001);
        due("shop 2", x.is(0, 2), -1001);
        due("shop -1", x.is(0, -1), -1001);
        promise(9);
        due("goes", x.goes(0), 0);
        due("goes past what is shut", x.goes(1), 0);
        due("goes", x.goes(2), 0);
        due("goes of none", x.goes(3), UNKNOWN);
        due("goes of -1", x.goes(-1), UNKNOWN);
        promise(10);
        due("spare", x.spare(0), 9);
        due("spare", x.spare(1), 3);
        due("more than worth", x.spare(2), 4);
        due("spare of none", x.spare(3), UNKNOWN);
        due("spare of -1", x.spare(-1), UNKNOWN);
        promise(9);
        x.price(0, 8);
        due("just worth it", x.goes(1), 0);
        due("no spare", x.spare(1), 0);
        x.price(0, 9);
        due("not worth it", x.goes(1), NONE);
        due("spare without", x.spare(1), 0);
        x.shop(0, 5, 0, 4);
        due("no liking for a shop that came behind", x.is(1, 2), 10);
        due("the other one", x.goes(0), 2);
        x.price(2, 9);
        due("of like ones the least number", x.goes(0), 0);
    }

    private static void profits() {
        promise(11);
        ShopsAsOne x = new ShopsAsOne();
        x.owner(0, 9);
        x.owner(3, 3);
        x.owner(4, 5);
        x.owner(1, 0);
        x.shop(0, 0, 3, 5);
        x.shop(1, 4, 4, 2);
        x.shop(1, 9, 2, 1);
        x.shop(2, 6, 0, 4);
        x.sort(0, 10, 5, 9, NONE, 0);
        x.sort(4, 7, 5, 9, NONE, 0);
        x.sort(9, 5, 5, 9, NONE, 0);
        due("10 times 5 less 3", x.profit(0), 20);
        due("a sparing's: 7 times 2 less 1, 5 times 1 less 0", x.profit(1), 12);
        due("out", x.profit(2), 0);
        due("no shops", x.profit(3), 0);
        due("owner 4", x.profit(4), -1000001);
        due("owner -1", x.profit(-1), -1000001);
        x.price(0, 1);
        due("a loss", x.profit(0), -20);
    }

    private static void bests() {
        promise(12);
        ShopsAsOne x = new ShopsAsOne();
        x.owner(0, 0);
        x.owner(1, 0);
        x.shop(0, 0, 0, 2);
        x.shop(0, 9, 0, 2);
        x.sort(0, 20, 5, 4, NONE, 0);
        x.sort(9, 10, 5, 9, NONE, 0);
        due("a ONE's here", x.best(0, 0), 4);
        due("a ONE's there", x.best(1, 0), 9);
        due("open", x.best(0, 1), 1);
        x.merge(1, 0);
        due("a CHAIN's here: 30 times 4 is above 10 times 9", x.best(0, 0), 4);
        due("a CHAIN's there", x.best(1, 0), 4);
        x.sort(9, 20, 5, 8, NONE, 0);
        due("30 times 8 is above 50 times 4", x.best(0, 0), 8);
        due("shop 2", x.best(2, 2), UNKNOWN);
        due("shop -1", x.best(-1, 0), UNKNOWN);
        due("what 2", x.best(0, 2), OUTSIDE);
        due("what -1", x.best(0, -1), OUTSIDE);
        due("it is only told", x.about(0, 3), 2);

        ShopsAsOne y = new ShopsAsOne();
        y.owner(0, 0);
        y.shop(0, 0, 0, 9);
        y.shop(0, 0, 0, 9);
        due("nobody comes: least", y.best(0, 0), 0);
        y.sort(0, 1, 0, 5, NONE, 0);
        due("of like ones least of the least shop", y.best(0, 0), 5);
        due("then of the next", y.best(1, 0), 5);
        y.owner(2, 0);
        y.shop(1, 0, 0, 7);
        due("a TOLD's as it is", y.best(2, 0), 7);
        due("a TOLD's is open", y.best(2, 1), 1);
        y.price(2, 2);
        due("of like ones to people the least number", y.best(0, 0), 2);

        ShopsAsOne z = new ShopsAsOne();
        z.owner(3, 9);
        z.owner(4, 40);
        z.shop(0, 0, 9, 6);
        z.shop(1, 9, 0, 3);
        z.sort(0, 10, 5, 1, NONE, 0);
        z.sort(9, 10, 5, 4, NONE, 0);
        due("a SPARING's without cost", z.best(0, 0), 1);
        due("a COMER's that stays out: as it is", z.best(1, 0), 3);
        due("40 is not above 40", z.best(1, 1), 0);
        z.sort(9, 1, 5, 4, NONE, 0);
        due("a COMER's that comes", z.best(1, 0), 4);
        due("44 is above 40", z.best(1, 1), 1);
        due("it is only told, too", z.about(1, 4), 0);
    }

    private static void turns() {
        promise(13);
        ShopsAsOne x = new ShopsAsOne();
        x.owner(4, 99);
        x.owner(2, 0);
        x.shop(0, 0, 0, 3);
        x.shop(0, 9, 0, 4);
        x.shop(1, 9, 0, 9);
        x.sort(0, 20, 5, 4, NONE, 0);
        x.sort(9, 10, 5, 9, NONE, 0);
        due("one price, and it comes", x.turn(0), 2);
        due("at 4", x.about(0, 3), 4);
        due("in", x.about(1, 4), 1);
        due("again", x.turn(0), 0);
        due("a TOLD's", x.turn(1), 0);
        due("no gain behind its turn", x.gain(0), 0);
        x.price(2, 3);
        due("90 at best is not above 99, so 0 less the 80 of now", x.gain(0), -80);
        due("it goes", x.turn(0), 1);
        due("its prices stay", x.about(0, 3), 4);
        due("out", x.about(0, 4), 0);
        due("out it stays", x.turn(0), 0);
        due("owner 2", x.turn(2), UNKNOWN);
        due("owner -1", x.turn(-1), UNKNOWN);
        due("sold", x.about(2, 5), 10);
        ShopsAsOne y = new ShopsAsOne();
        y.owner(4, 0);
        y.owner(0, 0);
        y.shop(0, 0, 0, 1);
        y.sort(0, 1, 0, 1, NONE, 0);
        due("comes for 1", y.turn(0), 1);
        y.merge(1, 0);
        due("in without shops goes", y.turn(0), 1);
        y.merge(0, 1);
        due("shut with it", y.about(0, 4), 0);
    }

    private static void rests() {
        promise(14);
        ShopsAsOne x = Streets.rivals();
        due("down from 5", x.rest(), 6);
        due("at 0", x.about(0, 3), 0);
        due("at 0", x.about(1, 3), 0);
        due("rests", x.rest(), 0);
        due("19 rounds", Streets.nineteen().rest(), 19);
        ShopsAsOne y = Streets.twenty();
        long before = y.digest();
        refused(y, before, "20 rounds", y.rest(), STATE);
        for (int round = 0; round < 21; round++) {
            int changes = 0;
            for (int owner = 0; owner < 6; owner++) {
                changes += y.turn(owner);
            }
            due("a change in round " + round, changes > 0 ? 1 : 0, round < 20 ? 1 : 0);
        }
        due("behind them it rests", y.rest(), 0);
        promise(15);
        x = Streets.rivals();
        due("0 has its best", x.otherwise(), 1);
        x.turn(1);
        due("0 has not", x.otherwise(), 0);
        x.price(1, 6);
        x.price(0, 7);
        due("both have not", x.otherwise(), 0);
        x.rest();
        due("nobody", x.otherwise(), NONE);
    }

    private static void gains() {
        promise(16);
        ShopsAsOne x = Streets.rivals();
        due("by best as it is: 50", x.gain(0), 0);
        due("40 by 4", x.gain(1), 40);
        due("owner 2", x.gain(2), -1000001);
        due("owner -1", x.gain(-1), -1000001);
        ShopsAsOne y = new ShopsAsOne();
        y.owner(1, 0);
        y.shop(0, 0, 0, 4);
        y.shop(0, 9, 0, 9);
        y.sort(0, 10, 5, 4, NONE, 0);
        y.sort(9, 10, 5, 9, NONE, 0);
        due("one price is worse than two", y.gain(0), -40);
        due("nobody would", y.otherwise(), NONE);
        due("but it takes it", y.turn(0), 1);
        due("at 9", y.about(0, 3), 9);
        due("and has no gain then", y.gain(0), 0);
    }

    private static void leastGain() {
        ShopsAsOne x = new ShopsAsOne();
        x.owner(0, 0);
        x.owner(0, 0);
        x.shop(1, 0, 0, 2);
        x.sort(0, 1, 5, 3, NONE, 0);
        promise(16);
        due("3 less 2", x.gain(1), 1);
        due("none without shops", x.gain(0), 0);
        promise(15);
        due("1 is above 0", x.otherwise(), 1);
        promise(29);
        Streets.test(x, "s=100&o=1");
        due("one person is all", x.bars(0, 0, 1), 1);
        x.shop(0, 9, 0, 0);
        x.sort(9, 1, 5, 0, NONE, 0);
        Streets.test(x, "s=100&o=1&r=5000");
        due("one person each: one seller", x.bars(1, 0, 1), 1);
    }

    private static void markets() {
        promise(17);
        ShopsAsOne x = new ShopsAsOne();
        x.owner(2, 0);
        x.owner(2, 0);
        x.shop(0, 0, 0, 4);
        x.shop(1, 2, 0, 4);
        x.sort(1, 10, 1, 9, NONE, 0);
        due("they go to the other one, but not from both", x.market(0, 1, false), 3);
        due("least", x.market(0, 1, true), 3);
        due("who sells nothing loses nothing", x.market(1, 1, false), 2);
        due("nobody pays 9", x.market(0, 5, false), NONE);
        due("least", x.market(0, 5, true), NONE);
        due("k 0", x.market(0, 0, false), OUTSIDE);
        due("k 6", x.market(0, 6, true), OUTSIDE);
        due("shop 2", x.market(2, 0, true), UNKNOWN);
        due("shop -1", x.market(-1, 1, true), UNKNOWN);
        x.price(0, 9);
        due("above 9 it does not go", x.market(0, 5, false), 1);

        ShopsAsOne y = new ShopsAsOne();
        y.owner(2, 0);
        y.owner(2, 0);
        y.owner(4, 0);
        y.shop(0, 5, 0, 4);
        y.shop(1, 3, 0, 9);
        y.shop(1, 7, 0, 6);
        y.shop(2, 5, 0, 0);
        y.sort(6, 10, 1, 10, NONE, 0);
        due("by nearness, of like ones the least number, past the shut one", y.market(0, 3, false), 7);
        due("least", y.market(0, 3, true), 5);
        due("shut", y.market(3, 1, false), STATE);
        due("shut, outside", y.market(3, 6, false), OUTSIDE);

        ShopsAsOne z = new ShopsAsOne();
        z.owner(3, 9);
        z.owner(2, 0);
        z.shop(0, 0, 5, 4);
        z.shop(1, 0, 0, 5);
        z.sort(0, 10, 0, 9, NONE, 0);
        due("of a sparing's shop the cost as told", z.market(0, 2, false), 1);

        ShopsAsOne v = new ShopsAsOne();
        v.owner(2, 0);
        v.shop(0, 0, 0, 2);
        v.sort(0, 10, 0, 3, NONE, 0);
        v.sort(0, 10, 0, 4, NONE, 0);
        due("10 times 4 is no less than 20 times 2", v.market(0, 2, false), 1);
        due("least", v.market(0, 2, true), 1);
        due("nothing is less", v.market(0, 3, false), NONE);
    }

    private static void shutShops() {
        promise(18);
        ShopsAsOne x = new ShopsAsOne();
        x.owner(2, 0);
        x.shop(0, 0, 0, 1);
        x.shop(0, 0, 0, 2);
        x.shop(0, 9, 0, 3);
        x.sort(0, 10, 0, 9, NONE, 0);
        x.sort(0, 7, 2, 1, NONE, 0);
        x.sort(9, 5, 2, 9, NONE, 0);
        x.sort(0, 3, 0, 9, 0, 5);
        due("the next one", x.instead(0, 0), 1);
        due("without", x.instead(1, 0), NONE);
        due("another than it goes to", x.instead(2, 0), 2);
        due("too far", x.instead(2, 2), NONE);
        due("sort 4", x.instead(4, 0), UNKNOWN);
        due("sort -1", x.instead(-1, 0), UNKNOWN);
        due("shop 3", x.instead(0, 3), UNKNOWN);
        due("shop -1", x.instead(0, -1), UNKNOWN);
        promise(19);
        due("both sorts that would", x.from(0, 1), 13);
        due("nobody", x.from(0, 2), 0);
        due("nobody there", x.from(1, 0), 0);
        due("shop 3", x.from(3, 0), UNKNOWN);
        due("other 3", x.from(0, 3), UNKNOWN);
        due("shop -1", x.from(-1, 0), UNKNOWN);
        due("other -1", x.from(0, -1), UNKNOWN);
        due("the same", x.from(1, 1), UNKNOWN);
    }

    private static void merges() {
        promise(20);
        ShopsAsOne x = Streets.rivals();
        long before = x.digest();
        refused(x, before, "the same", x.merge(0, 0), UNKNOWN);
        refused(x, before, "owner 2", x.merge(0, 2), UNKNOWN);
        refused(x, before, "owner -1", x.merge(-1, 0), UNKNOWN);
        due("both", x.merge(1, 0), 2);
        due("whose", x.about(0, 0), 1);
        due("whose", x.about(1, 0), 1);
        due("it has none", x.profit(0), 0);
        due("and the owner is there", x.count(0), 2);
        due("none to give", x.merge(1, 0), 2);
        x.shop(0, 1, 0, 5);
        x.shop(0, 1, 0, 5);
        before = x.digest();
        refused(x, before, "four", x.merge(0, 1), STATE);
        x.owner(4, 0);
        due("to a comer that is out", x.merge(2, 0), 2);
        due("shut", x.about(2, 4), 0);
        due("from a comer that is out", x.merge(0, 2), 2);
        due("open", x.about(2, 4), 1);
    }

    private static void harms() {
        promise(21);
        ShopsAsOne x = Streets.rivals();
        x.owner(0, 0);
        x.sort(0, 3, 0, 0, NONE, 0);
        long before = x.digest();
        due("from 0 to 9", x.dearer(0, 1, 0), 9);
        due("without, then too", x.dearer(0, 1, 1), 0);
        due("no matter which", x.dearer(1, 0, 0), 9);
        due("one without shops", x.dearer(0, 2, 0), 0);
        due("the same", x.dearer(1, 1, 0), -1001);
        due("owner 3", x.dearer(0, 3, 0), -1001);
        due("owner -1", x.dearer(-1, 0, 0), -1001);
        due("sort 2", x.dearer(0, 1, 2), -1001);
        due("sort -1", x.dearer(0, 1, -1), -1001);
        promise(22);
        due("harm", x.harm(0, 1, 0), 90);
        due("sorts", x.harm(0, 1, 1), 1);
        due("rounds", x.harm(0, 1, 2), 1);
        due("rounds with one without shops", x.harm(0, 2, 2), 6);
        due("no harm", x.harm(0, 2, 0), 0);
        due("no sorts", x.harm(0, 2, 1), 0);
        due("the same", x.harm(1, 1, 3), UNKNOWN);
        due("owner 3", x.harm(3, 1, 0), UNKNOWN);
        due("what 3", x.harm(0, 1, 3), OUTSIDE);
        due("what -1", x.harm(0, 1, -1), OUTSIDE);
        promise(23);
        due("one of two is enough", x.soldOff(0, 1, 2, 0), 1);
        due("8 is not 9", x.soldOff(0, 1, 2, 8), 1);
        due("none has to be sold", x.soldOff(0, 1, 2, 9), 0);
        due("c is a", x.soldOff(0, 1, 0, 0), UNKNOWN);
        due("c is b", x.soldOff(0, 1, 1, 0), UNKNOWN);
        due("c 3", x.soldOff(0, 1, 3, 10), UNKNOWN);
        due("a is b", x.soldOff(0, 0, 2, 0), UNKNOWN);
        due("t 10", x.soldOff(0, 1, 2, 10), OUTSIDE);
        due("t -1", x.soldOff(0, 1, 2, -1), OUTSIDE);
        due("nothing is changed", x.digest(), before);
        ShopsAsOne y = Streets.twoEnds();
        due("one end to who has one of the other", y.soldOff(0, 1, 2, 0), 1);
        y.shop(2, 9, 0, 9);
        y.shop(2, 9, 0, 9);
        due("no room", y.soldOff(0, 1, 2, 0), NONE);
        due("no room wanted", y.soldOff(0, 1, 2, 9), 0);
        for (int i = 0; i < 3; i++) {
            x.shop(2, 9, 0, 9);
        }
        promise(21);
        due("four", x.dearer(2, 0, 0), -1002);
        promise(22);
        due("four", x.harm(2, 0, 0), STATE);
        due("four, outside", x.harm(2, 0, 3), OUTSIDE);
        promise(23);
        due("four", x.soldOff(2, 0, 1, 0), STATE);
        due("four, outside", x.soldOff(2, 0, 1, 10), OUTSIDE);
    }

    private static void restless() {
        ShopsAsOne x = Streets.twenty();
        promise(21);
        due("does not rest", x.dearer(0, 4, 0), -1002);
        promise(22);
        due("does not rest", x.harm(0, 4, 0), NONE);
        due("does not rest", x.harm(0, 4, 2), NONE);
        promise(23);
        due("does not rest before", x.soldOff(0, 4, 1, 9), NONE);
        promise(24);
        due("does not rest before", x.twice(0, 4, 1, 2, 0), NONE);
        promise(30);
        Streets.test(x, "s<0");
        due("does not rest before", x.wrong(0, 0), 0);
        Streets.test(x, "!s<0");
        due("does not rest before", x.wrong(1, 1), 0);
    }

    private static void twice() {
        promise(24);
        ShopsAsOne x = Streets.twoEnds();
        long before = x.digest();
        due("the first", x.twice(0, 1, 2, 3, 0), 90);
        due("the second", x.twice(0, 1, 2, 3, 1), 180);
        due("both", x.twice(0, 1, 2, 3, 2), 270);
        due("each as one of two is harmless", x.twice(0, 2, 1, 3, 0), 0);
        due("but both are one on each end", x.twice(0, 2, 1, 3, 2), 0);
        int[][] same = {{0, 0, 1, 2}, {0, 1, 0, 2}, {0, 1, 2, 0}, {1, 0, 0, 2}, {1, 0, 2, 0}, {1, 2, 0, 0},
            {4, 1, 2, 3}, {0, 4, 2, 3}, {0, 1, 4, 3}, {0, 1, 2, 4}, {-1, 1, 2, 3}};
        for (int[] s : same) {
            due("unknown", x.twice(s[0], s[1], s[2], s[3], 3), UNKNOWN);
        }
        due("what 3", x.twice(0, 1, 2, 3, 3), OUTSIDE);
        due("what -1", x.twice(0, 1, 2, 3, -1), OUTSIDE);
        due("nothing is changed", x.digest(), before);
        x.shop(3, 9, 0, 9);
        x.shop(3, 9, 0, 9);
        due("the second is four", x.twice(0, 1, 2, 3, 0), STATE);
        due("the first is four", x.twice(2, 3, 0, 1, 1), STATE);
        due("four, outside", x.twice(2, 3, 0, 1, 3), OUTSIDE);
    }

    /** Something of the four that twice() looks at does not rest: then nothing of it is told. */
    private static void twiceWithoutRest() {
        promise(24);
        int[][][] first = {{{0, 0}, {2, 0}, {2, 0}, {0, 0}}, {{3, 7, 2, 1}, {1, 5, 1, 0}},
            {{0, 7, 2, 16, 0, 3}, {6, 8, 2, 4, 1, 5}}};
        int[][][] second = {{{2, 0}, {1, 0}, {3, 1}, {2, 0}}, {{3, 9, 0, 4}, {1, 8, 0, 7}},
            {{7, 21, 3, 7, 1, 1}, {8, 8, 3, 6, 0, 1}}};
        int[][][] both = {{{0, 0}, {2, 0}, {1, 0}, {2, 0}}, {{3, 5, 2, 2}, {1, 8, 1, 3}},
            {{6, 3, 2, 4, 0, 4}, {6, 8, 2, 6, 1, 3}}};
        withoutRest("the first", first, true, false, false);
        withoutRest("the second", second, false, true, false);
        withoutRest("both", both, false, false, true);
    }

    private static void withoutRest(String which, int[][][] street, boolean first, boolean second, boolean both) {
        ShopsAsOne x = Streets.of(street[0], street[1], street[2]);
        due("the first alone", x.harm(0, 1, 0) == NONE ? 1 : 0, first ? 1 : 0);
        due("the second alone", x.harm(2, 3, 0) == NONE ? 1 : 0, second ? 1 : 0);
        for (int what = 0; what <= 2; what++) {
            due(which + " does not rest, " + what, x.twice(0, 1, 2, 3, what), NONE);
        }
        x.merge(0, 1);
        x.merge(2, 3);
        due("both together", x.rest() == STATE ? 1 : 0, both ? 1 : 0);
    }

    private static void letters() {
        promise(25);
        ShopsAsOne x = new ShopsAsOne();
        due("none", x.letters(0), 0);
        due("lowest byte first", x.letters(Streets.packed("s<5")), 3);
        due("it is one", x.fault(), 3);
        long three = x.digest();
        refused(x, three, "127", x.letters(127), OUTSIDE);
        refused(x, three, "255 at the end", x.letters(-1L << 56 | 0x0101010101010101L), OUTSIDE);
        refused(x, three, "128 at the end", x.letters(Long.MIN_VALUE | 0x01010101010101L), OUTSIDE);
        refused(x, three, "one behind a 0", x.letters(0x10001L), OUTSIDE);
        refused(x, three, "one behind no letter", x.letters(1L << 56), OUTSIDE);
        due("1 and 126", x.letters(0x7e01L), 5);
        for (int i = 0; i < 5; i++) {
            due("eight", x.letters(0x7e7e7e7e7e7e7e7eL), 13 + 8 * i);
        }
        long many = x.digest();
        refused(x, many, "53", x.letters(0x2121212121212121L), FULL);
        refused(x, many, "53 and outside", x.letters(0x2121212121212180L), OUTSIDE);
        due("50", x.letters(0x2121212121L), 50);
        due("none more", x.letters(0), 50);
        due("one more", x.letters(33), FULL);
        promise(26);
        due("blank", x.blank(), 50);
        due("blank", x.blank(), 0);
        due("none", x.count(4), 0);
    }

    private static void faults() {
        promise(27);
        String[] texts = {"", "s<1", "s", "s<", "s<1234", "s<12345", "q<1", "s<1|", "s<1&", "s<1|&", "(s<1)", "(s<1))",
            "((", "()", "!", "!!!o>2", "!|", "s<1!", "s<1(", "(s<1)s", "(s<1)1", "(s<1)|d=99", "s=1o", "s-1", "S<1",
            "r>100&(s>40|o<4)&!d>3", " s<1", "s< 1", "s<1 ", "s<1|)", "(s<1|o=2)&!(d<3)", ")", "1", "<", "((s<1)&o=1)",
            "s<=1", "s!1", "s<a", "(!(s<1))"};
        int[] faults = {0, 3, 1, 2, 6, 6, 0, 4, 4, 4, 5, 5, 2, 1, 1, 6, 1, 3, 3, 5, 5, 10, 3, 1, 0, 21, 0, 2, 3, 4, 16, 0, 0, 0,
            11, 2, 1, 2, 8};
        String good = " s<1 s<1234 (s<1) !!!o>2 (s<1)|d=99 r>100&(s>40|o<4)&!d>3 (s<1|o=2)&!(d<3) ((s<1)&o=1) (!(s<1)) ";
        for (int i = 0; i < texts.length; i++) {
            ShopsAsOne x = new ShopsAsOne();
            Streets.write(x, texts[i]);
            promise(27);
            due("fault of " + texts[i], x.fault(), faults[i]);
            promise(28);
            boolean isOne = !texts[i].isEmpty() && texts[i].indexOf(' ') < 0 && good.contains(" " + texts[i] + " ");
            due("test of " + texts[i], x.test(), isOne ? 0 : STATE);
            due("letters behind it", x.count(4), isOne ? 0 : texts[i].length());
            due("tests", x.count(3), isOne ? 1 : 0);
        }
        promise(28);
        ShopsAsOne x = new ShopsAsOne();
        for (int i = 0; i < 4; i++) {
            due("test", Streets.test(x, "s<" + i), i);
        }
        Streets.write(x, "s<");
        long four = x.digest();
        refused(x, four, "none, and full", x.test(), STATE);
        Streets.write(x, "5");
        long five = x.digest();
        refused(x, five, "full", x.test(), FULL);
        due("it stays on the page", x.count(4), 3);
        ShopsAsOne y = new ShopsAsOne();
        due("deep", Streets.test(y, "(".repeat(23) + "s<9" + ")".repeat(23)), 0);
        due("often turned", Streets.test(y, "!".repeat(47) + "s<9"), 1);
        y.owner(0, 0);
        y.owner(0, 0);
        due("deep holds", y.bars(0, 0, 1), 1);
        due("turned 47 times", y.bars(1, 0, 1), 0);
    }

    private static void bars(String text, int a, int b, int want) {
        ShopsAsOne x = Streets.sellers();
        Streets.test(x, text);
        due(text + " of " + a + ", " + b, x.bars(0, a, b), want);
        due(text + " of " + b + ", " + a, x.bars(0, b, a), want);
    }

    private static void bars() {
        promise(29);
        bars("s=50", 0, 1, 1);
        bars("s=80", 0, 2, 1);
        bars("s<50", 0, 1, 0);
        bars("s<51", 0, 1, 1);
        bars("s>49", 0, 1, 1);
        bars("s>50", 0, 1, 0);
        bars("s=0050", 0, 1, 1);
        bars("o=2", 0, 1, 1);
        bars("o=3", 0, 3, 1);
        bars("r=1200", 0, 1, 1);
        bars("r=0", 0, 3, 1);
        bars("d=2", 0, 1, 1);
        bars("d=1", 1, 2, 1);
        bars("d=99", 0, 3, 1);
        bars("s=1|d=2", 0, 1, 1);
        bars("s=50|d=1", 0, 1, 1);
        bars("s=1|d=1", 0, 1, 0);
        bars("s=50&d=1", 0, 1, 0);
        bars("s=50&d=2", 0, 1, 1);
        bars("s=50|d=1&o=9", 0, 1, 1);
        bars("d=1&o=9|s=50", 0, 1, 1);
        bars("(s=50|d=1)&o=9", 0, 1, 0);
        bars("!s=50|d=1", 0, 1, 0);
        bars("!s=1&d=2", 0, 1, 1);
        bars("!(s=1|d=1)", 0, 1, 1);
        bars("!!s=50", 0, 1, 1);
        bars("!(s=1|d=1)&!(o=9&o=9)", 0, 1, 1);
        bars("o=9&(s=50|d=2)|d=1", 0, 1, 0);
        ShopsAsOne x = Streets.sellers();
        Streets.test(x, "s=0&r=0&o=0");
        due("test 1", x.bars(1, 0, 1), UNKNOWN);
        due("test -1", x.bars(-1, 0, 1), UNKNOWN);
        due("owner 4", x.bars(0, 0, 4), UNKNOWN);
        due("owner -1", x.bars(0, -1, 1), UNKNOWN);
        due("the same", x.bars(0, 1, 1), UNKNOWN);
        due("something is sold", x.bars(0, 0, 1), 0);
        x.price(0, 9);
        x.price(1, 9);
        x.price(3, 9);
        due("nothing is sold", x.bars(0, 0, 1), 1);
        ShopsAsOne y = Streets.sellers();
        y.sort(1, 1, 5, 1, NONE, 0);
        y.sort(1, 1, 5, 1, NONE, 0);
        Streets.test(y, "s=50&r=1140");
        due("32 and 20 of 102: 50, 31, 19, rounded down: 1178", y.bars(0, 0, 1), 0);
        Streets.test(y, "s=50&r=1178");
        due("32 and 20 of 102: 50, 31, 19, rounded down", y.bars(1, 0, 1), 1);
    }

    private static void wrongs() {
        promise(30);
        ShopsAsOne x = Streets.rivals();
        x.owner(0, 0);
        due("test 0", x.wrong(0, 0), UNKNOWN);
        Streets.test(x, "s<0");
        Streets.test(x, "!s<0");
        Streets.test(x, "s=100&d=0");
        due("test 3", x.wrong(3, 2), UNKNOWN);
        due("test -1", x.wrong(-1, 0), UNKNOWN);
        due("what 2", x.wrong(0, 2), OUTSIDE);
        due("what -1", x.wrong(0, -1), OUTSIDE);
        due("not done yet", x.count(6), 0);
        due("lets the one that harms", x.wrong(0, 0), 1);
        due("bars nothing", x.wrong(0, 1), 0);
        due("lets nothing", x.wrong(1, 0), 0);
        x.image();
        due("bars two that are harmless", x.wrong(1, 1), 2);
        due("bars just the one that harms", x.wrong(2, 0), 0);
        due("bars just the one that harms", x.wrong(2, 1), 0);
        due("done", x.count(6), 6);
        x.restore();
        long before = x.digest();
        refused(x, before, "six times", x.wrong(0, 0), STATE);
        refused(x, before, "six times, outside", x.wrong(0, 2), OUTSIDE);
        refused(x, before, "six times, unknown", x.wrong(3, 0), UNKNOWN);
        ShopsAsOne y = Streets.twoEnds();
        y.shop(0, 0, 0, 9);
        y.shop(0, 0, 0, 9);
        Streets.test(y, "s<0");
        due("0, 1 are four", y.wrong(0, 0), 1);
        Streets.test(y, "!s<0");
        due("so are 0, 2 and 0, 3", y.wrong(1, 1), 2);
    }

    private static void images() {
        promise(31);
        ShopsAsOne x = new ShopsAsOne();
        due("image of nothing", x.image(), 0);
        due("of it", x.restore(), 0);
        x.owner(0, 0);
        x.owner(4, 0);
        x.shop(0, 0, 0, 5);
        promise(32);
        due("a shop came", x.restore(), STATE);
        x.shop(1, 9, 0, 5);
        x.sort(9, 10, 5, 4, NONE, 0);
        long before = x.digest();
        due("image", x.image(), 2);
        x.turn(1);
        x.price(0, 9);
        x.merge(0, 1);
        due("restore", x.restore(), 2);
        due("all as it was", x.digest(), before);
        due("its price", x.price(0, 6), 5);
        due("again", x.restore(), 2);
        due("all as it was", x.digest(), before);
        x.owner(4, 0);
        x.merge(2, 1);
        due("the new comer comes", x.turn(2), 2);
        due("restore", x.restore(), 2);
        due("whose", x.about(1, 0), 1);
        due("the old one is out", x.about(1, 4), 0);
        x.merge(2, 1);
        due("the new one is in still", x.about(1, 4), 1);
        due("image in place of the other", x.image(), 2);
        x.price(0, 1);
        x.restore();
        due("its price", x.about(0, 3), 5);
        due("whose", x.about(1, 0), 2);
        x.shop(0, 1, 1, 1);
        long more = x.digest();
        refused(x, more, "a shop came", x.restore(), STATE);
        due("image with it", x.image(), 3);
        due("restore with it", x.restore(), 3);
    }

    private static void counts() {
        promise(33);
        ShopsAsOne x = Streets.sellers();
        Streets.test(x, "s<5");
        Streets.write(x, "abcd");
        x.wrong(0, 0);
        x.wrong(0, 0);
        int[] due = {4, 5, 3, 1, 4, 100, 2};
        for (int what = 0; what <= 6; what++) {
            due("count " + what, x.count(what), due[what]);
        }
        due("count 7", x.count(7), OUTSIDE);
        due("count -1", x.count(-1), OUTSIDE);
        promise(34);
        long[] numbers = {
            2, 0, 30, 2, 0, 20, 2, 0, 50, 4, 0, 0,
            0, 1, 0, 1, 1, 30, 1, 3, 0, 1, 1, 20, 1, 8, 0, 9, 1, 0, 2, 9, 0, 1, 1, 50, 3, 1, 0, 1, 0, 0,
            1, 30, 5, 1, -1, 0, 0, 0, 3, 20, 5, 1, -1, 0, 1, 0, 9, 50, 5, 1, -1, 0, 3, 0,
            0, 0, 0, 0, 0, 0,
            'a', 'b', 'c', 'd',
            4, 5, 3, 1, 4, 100, 2};
        due("digest", x.digest(), mixed(numbers));
        ShopsAsOne y = Streets.sellers();
        Streets.test(y, "s=50");
        Streets.test(y, "o=2");
        long[] head = java.util.Arrays.copyOf(numbers, 66);
        long[] bars = {1, 0, 0, 0, 0, 1, 1, 1, 0, 1, 0, 0, 4, 5, 3, 2, 0, 100, 0};
        long[] all = java.util.Arrays.copyOf(head, 66 + bars.length);
        System.arraycopy(bars, 0, all, 66, bars.length);
        due("digest with tests", y.digest(), mixed(all));
    }

    private static long mixed(long[] numbers) {
        long h = 373;
        for (long number : numbers) {
            h = 31 * h + number;
        }
        return h;
    }

    public static void main(String[] args) {
        newObject();
        owners();
        shops();
        sorts();
        whatAShopIs();
        profits();
        bests();
        turns();
        rests();
        gains();
        leastGain();
        markets();
        shutShops();
        merges();
        harms();
        restless();
        twice();
        twiceWithoutRest();
        letters();
        faults();
        bars();
        wrongs();
        images();
        counts();
        end();
    }
}
