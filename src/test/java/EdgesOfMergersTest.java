/** Edges of promises 20 to 24: two made one. */
public final class EdgesOfMergersTest extends Edges {
    /** Two ONE with so many shops, all beside each other. */
    private static ShopsAsOne having(int first, int second) {
        ShopsAsOne x = Streets.owners(0, 0, 0, 0);
        for (int i = 0; i < 3; i++) {
            if (i < first) {
                x.shop(0, 0, 0, 5);
            }
            if (i < second) {
                x.shop(1, 0, 0, 5);
            }
        }
        Streets.stay(x, 0, 10, 9);
        return x;
    }

    private static void noMoreThanThree() {
        edge(20, "no more than 3 then; STATE: more than 3 SHOPS; how many SHOPS a has");
        for (int a = 0; a <= 3; a++) {
            for (int b = 0; b <= 3; b++) {
                ShopsAsOne x = having(a, b);
                if (a + b > 3) {
                    refused(x, a + " and " + b, y -> y.merge(0, 1), STATE);
                    refused(x, b + " and " + a, y -> y.merge(1, 0), STATE);
                } else {
                    due(a + " and " + b, x.merge(0, 1), a + b);
                    due("again", x.merge(0, 1), a + b);
                    due("back", x.merge(1, 0), a + b);
                }
            }
        }
    }

    private static void otherHasNone() {
        edge(20, "all is as if SHOPS of b were a's; b has none");
        ShopsAsOne x = having(1, 2);
        x.merge(1, 0);
        for (int shop = 0; shop < 3; shop++) {
            due("owner of " + shop, x.about(shop, 0), 1);
            due("price of " + shop, x.about(shop, 3), 5);
        }
        due("owners", x.count(0), 4);
        due("b's profit", x.profit(0), 0);
        due("b's turn", x.turn(0), 0);
        due("b as another's", x.merge(2, 0), 0);
        ShopsAsOne y = Streets.owners(4, 0);
        y.shop(0, 0, 0, 5);
        y.shop(1, 0, 0, 5);
        due("to a COMER that is OUT", y.merge(0, 1), 2);
        due("shut", y.about(1, 4), 0);
        due("from it", y.merge(1, 0), 2);
        due("open", y.about(0, 4), 1);
    }

    private static void mergeRefused() {
        edge(20, "UNKNOWN: a, b, or they are the same");
        ShopsAsOne x = having(1, 1);
        for (int bad : beside(0, 3)) {
            refused(x, "merge(" + bad + ", 1)", y -> y.merge(bad, 1), UNKNOWN);
            refused(x, "merge(1, " + bad + ")", y -> y.merge(1, bad), UNKNOWN);
            refused(x, "merge(" + bad + ", " + bad + ")", y -> y.merge(bad, bad), UNKNOWN);
        }
        for (int owner = 0; owner < 4; owner++) {
            int same = owner;
            refused(x, "the same", y -> y.merge(same, same), UNKNOWN);
        }
        due("the last two", x.merge(3, 2), 0);
    }

    /**
     * A TOLD without shops, and a ONE whose prices as they are differ from its best: 9 for 5 at place 0 and 2 for 5 at
     * place 9. Behind their merger these prices stay.
     */
    private static ShopsAsOne dearerAndCheaper() {
        ShopsAsOne x = Streets.owners(2, 0);
        x.shop(1, 0, 0, 9);
        x.shop(1, 9, 0, 2);
        Streets.stay(x, 0, 10, 5);
        Streets.stay(x, 0, 1, 9);
        Streets.stay(x, 9, 10, 5);
        return x;
    }

    private static void spareBeforeLessBehind() {
        edge(21, "SPARE BEFORE less SPARE BEHIND; what rests from PRICES as they are");
        due("from 0 to 9, though it is 5 now", Streets.rivals().dearer(0, 1, 0), 9);
        due("1", Streets.oneDearer(7).dearer(0, 1, 0), 1);
        ShopsAsOne x = dearerAndCheaper();
        due("5 or 9 is the same to whom it is worth 5", x.dearer(0, 1, 0), 0);
        due("9 for 5", x.dearer(0, 1, 1), 4);
        due("2 for 5", x.dearer(0, 1, 2), -3);
        due("nothing is another's", x.dearer(1, 0, 2), 0);
        refused(x, "it is only told", y -> y.dearer(0, 1, 1), 4);
        due("three shops", having(1, 2).dearer(0, 1, 0), 9);
    }

    private static void mostDearer() {
        edge(21, "SPARE BEFORE less SPARE BEHIND (0 of those who do without)");
        ShopsAsOne x = new ShopsAsOne();
        x.owner(4, 99);
        x.owner(2, 0);
        x.owner(2, 0);
        x.shop(1, 0, 0, 0);
        x.sort(0, 11, 5, 30, 0, 9);
        due("30 and 9, and nothing if the COMER has it: 99 is not above 99", x.dearer(0, 1, 0), 39);
        due("the other way round it stays", x.dearer(1, 0, 0), 0);
        due("of eleven", x.harm(0, 1, 0), 429);
        due("9 is not 39", x.soldOff(0, 1, 2, 9), 1);
        x.sort(0, 1, 5, 30, 0, 0);
        due("9 dearer as it is worth to come", x.dearer(0, 1, 0), 9);
    }

    private static void dearerRefused() {
        edge(21, "-1001: UNKNOWN (sort, too); -1002: STATE, or it does not rest");
        ShopsAsOne x = Streets.rivals();
        for (int bad : beside(0, 1)) {
            refused(x, "a " + bad, y -> y.dearer(bad, 1, 0), NO_IS);
            refused(x, "b " + bad, y -> y.dearer(1, bad, 0), NO_IS);
        }
        for (int bad : beside(0, 0)) {
            refused(x, "sort " + bad, y -> y.dearer(0, 1, bad), NO_IS);
        }
        refused(x, "the same", y -> y.dearer(1, 1, 0), NO_IS);
        refused(having(1, 3), "four", y -> y.dearer(0, 1, 0), NOT_TOLD);
        refused(having(2, 2), "two and two", y -> y.dearer(1, 0, 0), NOT_TOLD);
        refused(Streets.twenty(), "20 rounds", y -> y.dearer(2, 4, 0), NOT_TOLD);
        due("19 rounds", Streets.nineteen().dearer(2, 4, 0), 0);
    }

    private static void restsBeforeAndBehind() {
        edge(21, "-1002: STATE, or it does not rest; NONE: it does not rest BEFORE or BEHIND");
        ShopsAsOne x = Streets.restless(Streets.owners(0, 0), 0, 1);
        refused(x, "not BEFORE", y -> y.dearer(0, 1, 0), NOT_TOLD);
        for (int i = 0; i <= 2; i++) {
            int what = i;
            refused(x, "not BEFORE", y -> y.harm(0, 1, what), NONE);
        }
        x.merge(0, 1);
        due("though it does BEHIND", x.rest(), 1);
        ShopsAsOne z = Streets.restless(Streets.owners(0, 2, 0), 1, 2);
        refused(z, "not BEHIND", y -> y.dearer(0, 1, 0), NOT_TOLD);
        for (int i = 0; i <= 2; i++) {
            int what = i;
            refused(z, "not BEHIND", y -> y.harm(0, 1, what), NONE);
        }
        due("but if the TOLD has it", z.dearer(1, 0, 0), 0);
        due("no harm", z.harm(1, 0, 0), 0);
        due("and BEFORE", z.rest(), 1);
    }

    private static void whereItIsAboveNothing() {
        edge(22, "HARM: DEARER times MANY, of SORTS for which it is above 0, together; 1 SORTS (bits)");
        ShopsAsOne x = dearerAndCheaper();
        due("cheaper for ten does not count", x.harm(0, 1, 0), 4);
        due("just sort 1", x.harm(0, 1, 1), 2);
        due("no harm", x.harm(1, 0, 0), 0);
        due("no sorts", x.harm(1, 0, 1), 0);
        due("50 times 1", Streets.oneDearer(50).harm(0, 1, 0), 50);
        due("1 times 1", Streets.oneDearer(1).harm(0, 1, 0), 1);
        due("for it", Streets.oneDearer(1).harm(0, 1, 1), 1);
        ShopsAsOne y = Streets.rivals();
        for (int i = 1; i < 8; i++) {
            due("not for who do without", y.harm(0, 1, 1), 1);
            Streets.stay(y, i, 50, 0);
        }
        ShopsAsOne z = Streets.owners(0, 0);
        z.shop(0, 0, 0, 5);
        z.shop(1, 0, 0, 5);
        for (int i = 0; i < 8; i++) {
            z.sort(i, 50, 0, 9, NONE, 0);
        }
        due("most: 400 times 9", z.harm(0, 1, 0), 3600);
        due("all eight", z.harm(0, 1, 1), 255);
        refused(z, "it is only told", w -> w.harm(1, 0, 1), 255);
    }

    private static void roundsBehind() {
        edge(22, "2 ROUNDS BEHIND");
        ShopsAsOne x = Streets.rivals();
        due("5 by both becomes 9", x.harm(0, 1, 2), 1);
        x.price(0, 9);
        x.price(1, 9);
        due("as best as it is", x.harm(0, 1, 2), 0);
        due("owners without shops", Streets.owners(0, 0).harm(0, 1, 2), 0);
        due("19", Streets.nineteen().harm(2, 4, 2), 19);
        due("20", Streets.twenty().harm(2, 4, 2), NONE);
    }

    private static void harmRefused() {
        edge(22, "OUTSIDE: what, ahead of STATE");
        ShopsAsOne x = Streets.rivals();
        for (int bad : beside(0, 1)) {
            refused(x, "a " + bad, y -> y.harm(bad, 1, 0), UNKNOWN);
            refused(x, "b " + bad, y -> y.harm(1, bad, 0), UNKNOWN);
        }
        for (int bad : beside(0, 2)) {
            refused(x, "what " + bad, y -> y.harm(0, 1, bad), OUTSIDE);
            refused(having(1, 3), "four, what " + bad, y -> y.harm(0, 1, bad), OUTSIDE);
        }
        refused(x, "the same", y -> y.harm(0, 0, 0), UNKNOWN);
        for (int i = 0; i <= 2; i++) {
            int what = i;
            refused(having(1, 3), "four", y -> y.harm(0, 1, what), STATE);
            refused(having(2, 2), "four", y -> y.harm(0, 1, what), STATE);
            due("three", having(3, 0).harm(0, 1, what) >= 0 ? 1 : 0, 1);
        }
    }

    /**
     * A TOLD without shops, a ONE with shops at these places, and a third with that many at place 6, where nobody goes.
     * At each place it is 5 BEFORE and 9 BEHIND, if the TOLD has the shop: 4 dearer for one. As the third's it is 5.
     */
    private static ShopsAsOne toSell(int thirds, int... places) {
        ShopsAsOne x = Streets.owners(2, 0, 0);
        for (int place : places) {
            x.shop(1, place, 0, 9);
            Streets.stay(x, place, 10, 5);
            Streets.stay(x, place, 1, 9);
        }
        for (int i = 0; i < thirds; i++) {
            x.shop(2, 6, 0, 9);
        }
        return x;
    }

    private static void howManyAreSold() {
        edge(23, "some of their SHOPS are another OWNER's, c's (no more than 3 then)");
        due("all three", toSell(0, 0, 4, 9).soldOff(0, 1, 2, 0), 7);
        due("c has room for two", toSell(1, 0, 4, 9).soldOff(0, 1, 2, 0), NONE);
        due("two", toSell(1, 0, 9).soldOff(0, 1, 2, 0), 3);
        due("c has room for one", toSell(2, 0, 9).soldOff(0, 1, 2, 0), NONE);
        due("one", toSell(2, 9).soldOff(0, 1, 2, 0), 1);
        due("c has no room", toSell(3, 9).soldOff(0, 1, 2, 0), NONE);
        due("nor wants it", toSell(3, 9).soldOff(0, 1, 2, 4), 0);
        due("no shops at all", Streets.owners(0, 0, 0).soldOff(0, 1, 2, 0), 0);
        due("nothing has to be sold", toSell(0, 0, 4, 9).soldOff(1, 0, 2, 0), 0);
    }

    private static void noMoreThanT() {
        edge(23, "no SORT is DEARER by more than t (0 to 9)");
        for (int t = 0; t <= 9; t++) {
            due("4, t " + t, toSell(0, 0, 4, 9).soldOff(0, 1, 2, t), t < 4 ? 7 : 0);
            ShopsAsOne x = Streets.rivals();
            x.owner(0, 0);
            due("9, t " + t, x.soldOff(0, 1, 2, t), t < 9 ? 1 : 0);
        }
        ShopsAsOne eight = Streets.owners(0, 0, 0);
        eight.shop(0, 9, 0, 5);
        eight.shop(1, 9, 0, 5);
        for (int i = 0; i < 7; i++) {
            Streets.stay(eight, 0, 50, 30);
        }
        due("seven that do without", eight.soldOff(0, 1, 2, 0), 0);
        Streets.stay(eight, 9, 1, 9);
        due("9 for the last of eight, t 8", eight.soldOff(0, 1, 2, 8), 1);
        due("9 for the last of eight, t 9", eight.soldOff(0, 1, 2, 9), 0);
        ShopsAsOne y = toSell(0, 9);
        for (int t : beside(0, 9)) {
            refused(y, "t " + t, z -> z.soldOff(0, 1, 2, t), OUTSIDE);
        }
    }

    private static void fewestThenLeastBits() {
        edge(23, "one of fewest SHOPS; of like ones of least bits");
        ShopsAsOne x = Streets.rivals();
        x.owner(0, 0);
        due("either of two", x.soldOff(0, 1, 2, 0), 1);
        due("either of two, from the other", x.soldOff(1, 0, 2, 0), 1);
        ShopsAsOne last = Streets.owners(0, 0, 0);
        last.shop(2, 0, 0, 5);
        last.shop(1, 0, 0, 5);
        Streets.stay(last, 0, 10, 9);
        due("either of two, of the last owners", last.soldOff(1, 2, 0, 0), 1);
        due("either of two, of the last owners", last.soldOff(2, 1, 0, 0), 1);
        int[][] owners = {{0, 0}, {0, 0}, {2, 0}};
        int[][] sorts = {{1, 2, 0, 7, NONE, 0}, {0, 1, 1, 6, NONE, 0}};
        ShopsAsOne y = Streets.of(owners, new int[][] {{0, 0, 0, 4}, {0, 3, 0, 3}, {1, 0, 0, 1}}, sorts);
        due("one is fewer than two of less bits", y.soldOff(0, 1, 2, 2), 4);
        ShopsAsOne sold = Streets.of(owners, new int[][] {{2, 0, 0, 4}, {2, 3, 0, 3}, {0, 0, 0, 1}}, sorts);
        y.rest();
        sold.rest();
        for (int sort = 0; sort <= 1; sort++) {
            due("the two would do, too", y.spare(sort) - sold.spare(sort) <= 2 ? 1 : 0, 1);
        }
    }

    private static void setsThatRest() {
        edge(23, "of sets by which it rests BEHIND; NONE: none does, or it does not rest BEFORE");
        ShopsAsOne x = Streets.restless(Streets.owners(0, 2, 0, 2), 1, 2);
        due("to a TOLD, for it would not rest as theirs", x.soldOff(0, 1, 3, 9), 1);
        due("and nobody minds", x.soldOff(0, 1, 3, 0), 1);
        due("to the one beside it: 5 dearer", x.soldOff(0, 1, 2, 5), 1);
        due("not 4", x.soldOff(0, 1, 2, 4), NONE);
        ShopsAsOne y = Streets.restless(Streets.owners(0, 0, 2), 0, 1);
        refused(y, "not BEFORE", z -> z.soldOff(0, 1, 2, 9), NONE);
        due("19 rounds", Streets.nineteen().soldOff(2, 4, 0, 0), 0);
        due("20 rounds", Streets.twenty().soldOff(2, 4, 0, 9), NONE);
        ShopsAsOne w = toSell(0, 0, 9);
        refused(w, "it is only told", z -> z.soldOff(0, 1, 2, 0), 3);
    }

    private static void soldOffRefused() {
        edge(23, "UNKNOWN: c (also a, b), too; OUTSIDE: t, ahead of STATE");
        ShopsAsOne x = having(1, 3);
        for (int bad : new int[] {-1, 4, 256, Integer.MIN_VALUE, Integer.MAX_VALUE}) {
            refused(x, "a " + bad, y -> y.soldOff(bad, 1, 2, 0), UNKNOWN);
            refused(x, "b " + bad, y -> y.soldOff(0, bad, 2, 0), UNKNOWN);
            refused(x, "c " + bad, y -> y.soldOff(0, 2, bad, 0), UNKNOWN);
        }
        refused(x, "a is b", y -> y.soldOff(2, 2, 3, 0), UNKNOWN);
        refused(x, "a is c", y -> y.soldOff(2, 0, 2, 0), UNKNOWN);
        refused(x, "b is c", y -> y.soldOff(0, 2, 2, 0), UNKNOWN);
        refused(x, "four, t 10", y -> y.soldOff(0, 1, 2, 10), OUTSIDE);
        refused(x, "four", y -> y.soldOff(0, 1, 2, 9), STATE);
        refused(x, "four, to one who has none", y -> y.soldOff(1, 0, 3, 0), STATE);
        refused(having(2, 2), "two and two", y -> y.soldOff(0, 1, 2, 9), STATE);
        due("three", having(1, 2).soldOff(0, 1, 2, 9), 0);
        due("four together with c's", having(1, 3).soldOff(0, 2, 1, 9), 0);
    }

    private static void dueTwice(ShopsAsOne x, String which, int[] four, int first, int second, int both) {
        int[] due = {first, second, both};
        for (int i = 0; i <= 2; i++) {
            int what = i;
            refused(x, which + ", what " + what, y -> y.twice(four[0], four[1], four[2], four[3], what), due[i]);
        }
    }

    private static void eachAndBoth() {
        edge(24, "HARM of a, b MERGED; of c, d; of both");
        dueTwice(Streets.twoEnds(), "an end each", new int[] {0, 1, 2, 3}, 90, 180, 270);
        dueTwice(Streets.twoEnds(), "other way round", new int[] {3, 2, 1, 0}, 180, 90, 270);
        dueTwice(Streets.twoEnds(), "harmless", new int[] {0, 2, 3, 1}, 0, 0, 0);
        ShopsAsOne x = Streets.owners(0, 0, 0, 0);
        x.shop(0, 0, 2, 1);
        x.shop(1, 0, 2, 0);
        x.shop(2, 0, 0, 7);
        x.shop(3, 0, 0, 5);
        x.sort(3, 10, 0, 9, NONE, 0);
        dueTwice(x, "harmless one by one", new int[] {0, 1, 2, 3}, 0, 0, 10);
        dueTwice(Streets.owners(0, 0, 0, 0, 0), "no shops", new int[] {4, 3, 2, 1}, 0, 0, 0);
    }

    private static void somethingDoesNotRest() {
        edge(24, "NONE: something does not rest");
        int[] four = {0, 1, 2, 3};
        ShopsAsOne before = Streets.restless(Streets.owners(2, 0, 2, 0), 1, 3);
        dueTwice(before, "BEFORE alone", four, NONE, NONE, NONE);
        ShopsAsOne first = Streets.restless(Streets.owners(0, 2, 2, 0), 1, 3);
        dueTwice(first, "a, b alone", four, NONE, NONE, NONE);
        dueTwice(first, "c, d alone", new int[] {2, 3, 0, 1}, NONE, NONE, NONE);
        due("c, d", first.harm(2, 3, 0) >= 0 ? 1 : 0, 1);
        ShopsAsOne both = Streets.restless(Streets.owners(0, 2, 0, 2), 1, 3);
        dueTwice(both, "both alone", four, NONE, NONE, NONE);
        due("a, b", both.harm(0, 1, 0) >= 0 ? 1 : 0, 1);
        due("c, d", both.harm(2, 3, 0) >= 0 ? 1 : 0, 1);
        dueTwice(Streets.twenty(), "20 rounds", new int[] {2, 4, 3, 1}, NONE, NONE, NONE);
    }

    private static void twiceRefused() {
        edge(24, "UNKNOWN: any, or two the same; OUTSIDE: what, ahead of STATE (of both pairs)");
        ShopsAsOne x = having(2, 2);
        for (int bad : new int[] {-1, 4, 256, Integer.MIN_VALUE, Integer.MAX_VALUE}) {
            refused(x, "a " + bad, y -> y.twice(bad, 1, 2, 3, 0), UNKNOWN);
            refused(x, "b " + bad, y -> y.twice(0, bad, 2, 3, 0), UNKNOWN);
            refused(x, "c " + bad, y -> y.twice(0, 1, bad, 3, 0), UNKNOWN);
            refused(x, "d " + bad, y -> y.twice(0, 1, 2, bad, 0), UNKNOWN);
        }
        int[][] same = {{0, 0, 2, 3}, {0, 1, 0, 3}, {0, 1, 2, 0}, {0, 2, 2, 3}, {0, 2, 3, 2}, {0, 1, 2, 2}};
        for (int[] s : same) {
            refused(x, "two the same", y -> y.twice(s[0], s[1], s[2], s[3], 0), UNKNOWN);
        }
        for (int what : beside(0, 2)) {
            refused(x, "what " + what, y -> y.twice(0, 2, 1, 3, what), OUTSIDE);
            refused(x, "four, what " + what, y -> y.twice(0, 1, 2, 3, what), OUTSIDE);
        }
        for (int i = 0; i <= 2; i++) {
            int what = i;
            refused(x, "a, b have four", y -> y.twice(0, 1, 2, 3, what), STATE);
            refused(x, "c, d have four", y -> y.twice(2, 3, 1, 0, what), STATE);
            due("two and none", x.twice(0, 2, 3, 1, what), 0);
            due("three and none", having(3, 0).twice(0, 1, 2, 3, what), 0);
        }
    }

    public static void main(String[] args) {
        noMoreThanThree();
        otherHasNone();
        mergeRefused();
        spareBeforeLessBehind();
        mostDearer();
        dearerRefused();
        restsBeforeAndBehind();
        whereItIsAboveNothing();
        roundsBehind();
        harmRefused();
        howManyAreSold();
        noMoreThanT();
        fewestThenLeastBits();
        setsThatRest();
        soldOffRefused();
        eachAndBoth();
        somethingDoesNotRest();
        twiceRefused();
        end();
    }
}
