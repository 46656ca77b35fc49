/** Shops on a street: who sets which price, and what changes when two owners become one. */
public final class ShopsAsOne {
    public static final int NONE = -1, UNKNOWN = -101, OUTSIDE = -102, STATE = -103, FULL = -104;

    private static final int UNKNOWN_IS = -1001, NOT_TOLD = -1002, UNKNOWN_PROFIT = -1000001;
    private static final int OWNERS = 6, SHOPS = 6, SORTS = 8, TESTS = 4, LETTERS = 50;
    private static final int SHOPS_OF_ONE = 3, LAST_PLACE = 9, TOP_COST = 9, TOP_PRICE = 9;
    private static final int ROUNDS = 20, WRONGS = 6, FAR = 99, TOP_CODE = 126;
    /** Below every profit, and above whatever a sort may lose. */
    private static final int LOWEST = -1000000, NEVER = 1000000;
    private static final int CHAIN = 1, TOLD = 2, SPARING = 3, COMER = 4;

    private final Street street = new Street();
    private final Standing now = new Standing(street);
    private final Standing trial = new Standing(street);
    private final Standing kept = new Standing(street);
    private final Bests bests = new Bests(street);
    private final Joining joining = new Joining(street, bests);
    private final Text page = new Text();
    private final Text[] tests = new Text[TESTS];
    private final Grammar grammar = new Grammar();
    private final Judge judge = new Judge(street);
    private int testCount;
    private int wrongCount;
    private boolean isKept;
    private int keptOwners;
    private int keptShops;

    public ShopsAsOne() {
        for (int i = 0; i < tests.length; i++) {
            tests[i] = new Text();
        }
    }

    // ---- the street

    public int owner(int kind, int n) {
        if (isNot(kind, 0, COMER) || isNot(n, 0, 99)) {
            return OUTSIDE;
        }
        return street.addOwner(kind, n);
    }

    public int as(int owner, int kind) {
        if (isNoOwner(owner)) {
            return UNKNOWN;
        }
        if (isNot(kind, 0, COMER)) {
            return OUTSIDE;
        }
        int own = street.kind[owner];
        boolean fits = kind == 0 || kind == own || (kind == CHAIN && own == COMER);
        return fits ? owner : NONE;
    }

    public int shop(int owner, int place, int cost, int price) {
        if (isNoOwner(owner)) {
            return UNKNOWN;
        }
        if (isNot(place, 0, LAST_PLACE) || isNot(cost, 0, TOP_COST) || isNot(price, 0, TOP_PRICE)) {
            return OUTSIDE;
        }
        if (now.shopsOf(owner) >= SHOPS_OF_ONE) {
            return FULL;
        }
        int shop = street.addShop(place, cost);
        if (shop != FULL) {
            now.whose[shop] = owner;
            now.price[shop] = price;
        }
        return shop;
    }

    public int about(int shop, int what) {
        if (isNoShop(shop)) {
            return UNKNOWN;
        }
        switch (what) {
            case 0:
                return now.whose[shop];
            case 1:
                return street.place[shop];
            case 2:
                return street.cost[shop];
            case 3:
                return now.price[shop];
            case 4:
                return now.isOpen(shop) ? 1 : 0;
            case 5:
                return now.soldBy(1 << shop);
            default:
                return OUTSIDE;
        }
    }

    public int price(int shop, int v) {
        if (isNoShop(shop)) {
            return UNKNOWN;
        }
        if (isNot(v, 0, TOP_PRICE)) {
            return OUTSIDE;
        }
        int was = now.price[shop];
        now.price[shop] = v;
        return was;
    }

    public int sort(int place, int many, int way, int worth, int liked, int liking) {
        if (isNot(place, 0, LAST_PLACE) || isNot(many, 1, 50) || isNot(way, 0, 5)
                || isNot(worth, 0, 30) || isNot(liking, 0, 9)) {
            return OUTSIDE;
        }
        if (liked != NONE && isNoShop(liked)) {
            return UNKNOWN;
        }
        return street.addSort(place, many, way, worth, liked, liking);
    }

    public int is(int sort, int shop) {
        return isNoSort(sort) || isNoShop(shop) ? UNKNOWN_IS : now.whatIs(sort, shop);
    }

    public int goes(int sort) {
        return isNoSort(sort) ? UNKNOWN : now.choice(sort, NONE);
    }

    public int spare(int sort) {
        return isNoSort(sort) ? UNKNOWN : now.spareOf(sort);
    }

    public int profit(int owner) {
        return isNoOwner(owner) ? UNKNOWN_PROFIT : now.profitOf(owner);
    }

    // ---- prices

    public int best(int shop, int what) {
        if (isNoShop(shop)) {
            return UNKNOWN;
        }
        if (isNot(what, 0, 1)) {
            return OUTSIDE;
        }
        int owner = now.whose[shop];
        bests.look(now, owner);
        if (what == 0) {
            return bests.priceOf(shop);
        }
        return street.kind[owner] != COMER || bests.isIn ? 1 : 0;
    }

    public int turn(int owner) {
        if (isNoOwner(owner)) {
            return UNKNOWN;
        }
        bests.look(now, owner);
        return bests.take(now, owner);
    }

    public int rest() {
        trial.become(now);
        int rounds = bests.settle(trial);
        if (rounds == NONE) {
            return STATE;
        }
        now.become(trial);
        return rounds;
    }

    public int otherwise() {
        for (int owner = 0; owner < street.owners; owner++) {
            if (gainOf(owner) > 0) {
                return owner;
            }
        }
        return NONE;
    }

    public int gain(int owner) {
        return isNoOwner(owner) ? UNKNOWN_PROFIT : gainOf(owner);
    }

    private int gainOf(int owner) {
        bests.look(now, owner);
        return bests.profit - now.profitOf(owner);
    }

    // ---- markets

    public int market(int shop, int k, boolean least) {
        if (isNoShop(shop)) {
            return UNKNOWN;
        }
        if (isNot(k, 1, 5)) {
            return OUTSIDE;
        }
        if (!now.isOpen(shop)) {
            return STATE;
        }
        return least ? leastMarket(shop, k) : nearMarket(shop, k);
    }

    private int nearMarket(int shop, int k) {
        int set = 1 << shop;
        for (int size = 1; size <= street.shops; size++) {
            if (wouldPay(set, k)) {
                return set;
            }
            int next = now.nearestOpen(shop, set);
            if (next == NONE) {
                return NONE;
            }
            set |= 1 << next;
        }
        return NONE;
    }

    private int leastMarket(int shop, int k) {
        int open = now.openShops();
        for (int size = 1; size <= street.shops; size++) {
            for (int set = 1 << shop; set < 1 << street.shops; set++) {
                boolean fits = Integer.bitCount(set) == size && (set >> shop & 1) == 1 && (set & ~open) == 0;
                if (fits && wouldPay(set, k)) {
                    return set;
                }
            }
        }
        return NONE;
    }

    /** Whether a set of shops together has no less profit if its prices are k more. */
    private boolean wouldPay(int set, int k) {
        trial.become(now);
        for (int shop = 0; shop < street.shops; shop++) {
            if ((set >> shop & 1) == 1) {
                trial.price[shop] = Math.min(TOP_PRICE, now.price[shop] + k);
            }
        }
        return trial.marginOf(set) >= now.marginOf(set);
    }

    public int instead(int sort, int shop) {
        return isNoSort(sort) || isNoShop(shop) ? UNKNOWN : now.choice(sort, shop);
    }

    public int from(int shop, int other) {
        if (isNoShop(shop) || isNoShop(other) || shop == other) {
            return UNKNOWN;
        }
        int people = 0;
        for (int sort = 0; sort < street.sorts; sort++) {
            if (now.choice(sort, NONE) == shop && now.choice(sort, shop) == other) {
                people += street.many[sort];
            }
        }
        return people;
    }

    // ---- two made one

    public int merge(int a, int b) {
        if (areNotTwo(a, b)) {
            return UNKNOWN;
        }
        if (areTooMany(a, b)) {
            return STATE;
        }
        now.give(b, a);
        return now.shopsOf(a);
    }

    public int dearer(int a, int b, int sort) {
        if (areNotTwo(a, b) || isNoSort(sort)) {
            return UNKNOWN_IS;
        }
        if (areTooMany(a, b) || !joining.restsBefore(now) || joining.roundsBehind(now, a, b) == NONE) {
            return NOT_TOLD;
        }
        return joining.dearerFor(sort);
    }

    public int harm(int a, int b, int what) {
        if (areNotTwo(a, b)) {
            return UNKNOWN;
        }
        if (isNot(what, 0, 2)) {
            return OUTSIDE;
        }
        if (areTooMany(a, b)) {
            return STATE;
        }
        if (!joining.restsBefore(now)) {
            return NONE;
        }
        int rounds = joining.roundsBehind(now, a, b);
        if (rounds == NONE || what == 2) {
            return rounds;
        }
        return what == 0 ? joining.harmInAll() : joining.sortsHarmed();
    }

    public int soldOff(int a, int b, int c, int t) {
        if (areNotTwo(a, b) || areNotTwo(a, c) || areNotTwo(b, c)) {
            return UNKNOWN;
        }
        if (isNot(t, 0, 9)) {
            return OUTSIDE;
        }
        if (areTooMany(a, b)) {
            return STATE;
        }
        if (!joining.restsBefore(now)) {
            return NONE;
        }
        int theirs = now.setOf(a) | now.setOf(b);
        int room = SHOPS_OF_ONE - now.shopsOf(c);
        // the empty set counts, too: then nothing has to be sold
        for (int size = 0; size <= room; size++) {
            for (int set = 0; set <= theirs; set++) {
                boolean fits = Integer.bitCount(set) == size && (set & ~theirs) == 0;
                if (fits && joining.dearestWhenSold(now, a, b, c, set) <= t) {
                    return set;
                }
            }
        }
        return NONE;
    }

    public int twice(int a, int b, int c, int d, int what) {
        if (areNotTwo(a, b) || areNotTwo(c, d) || areNotTwo(a, c) || areNotTwo(a, d)
                || areNotTwo(b, c) || areNotTwo(b, d)) {
            return UNKNOWN;
        }
        if (isNot(what, 0, 2)) {
            return OUTSIDE;
        }
        if (areTooMany(a, b) || areTooMany(c, d)) {
            return STATE;
        }
        if (!joining.restsBefore(now)) {
            return NONE;
        }
        int first = joining.harmOf(now, a, b);
        int second = joining.harmOf(now, c, d);
        trial.become(now);
        trial.give(b, a);
        int both = joining.harmOf(trial, c, d);
        if (first == NONE || second == NONE || both == NONE) {
            return NONE;
        }
        return what == 0 ? first : what == 1 ? second : both;
    }

    // ---- tests

    public int letters(long w) {
        int fresh = 0;
        boolean isOver = false;
        for (int i = 0; i < 8; i++) {
            int code = codeAt(w, i);
            if (code > TOP_CODE || (isOver && code != 0)) {
                return OUTSIDE;
            }
            isOver = code == 0;
            fresh += isOver ? 0 : 1;
        }
        if (page.length + fresh > LETTERS) {
            return FULL;
        }
        for (int i = 0; i < fresh; i++) {
            page.append((char) codeAt(w, i));
        }
        return page.length;
    }

    private static int codeAt(long w, int i) {
        return (int) ((w >>> (8 * i)) & 255);
    }

    public int blank() {
        int had = page.length;
        page.length = 0;
        return had;
    }

    public int fault() {
        return grammar.firstFault(page);
    }

    public int test() {
        if (!grammar.isTest(page)) {
            return STATE;
        }
        if (testCount >= tests.length) {
            return FULL;
        }
        tests[testCount].become(page);
        page.length = 0;
        testCount++;
        return testCount - 1;
    }

    public int bars(int test, int a, int b) {
        if (isNoTest(test) || areNotTwo(a, b)) {
            return UNKNOWN;
        }
        return isBarred(test, a, b) ? 1 : 0;
    }

    private boolean isBarred(int test, int a, int b) {
        judge.weigh(now, a, b);
        return judge.holds(tests[test]);
    }

    public int wrong(int test, int what) {
        if (isNoTest(test)) {
            return UNKNOWN;
        }
        if (isNot(what, 0, 1)) {
            return OUTSIDE;
        }
        if (wrongCount >= WRONGS) {
            return STATE;
        }
        wrongCount++;
        if (!joining.restsBefore(now)) {
            return 0;
        }
        int pairs = 0;
        for (int a = 0; a < street.owners; a++) {
            for (int b = a + 1; b < street.owners; b++) {
                if (!areTooMany(a, b) && isWrong(isBarred(test, a, b), what == 1, joining.harmOf(now, a, b))) {
                    pairs++;
                }
            }
        }
        return pairs;
    }

    /** Barred though harmless, where that is asked; else let though harmful. */
    private static boolean isWrong(boolean isBarred, boolean barredAsked, int harm) {
        return harm != NONE && isBarred == barredAsked && (harm == 0) == barredAsked;
    }

    // ---- what is told

    public int image() {
        kept.become(now);
        isKept = true;
        keptOwners = street.owners;
        keptShops = street.shops;
        return keptShops;
    }

    public int restore() {
        if (!isKept || keptShops != street.shops) {
            return STATE;
        }
        // owners that came since have no row in the image: they keep what they are
        for (int owner = keptOwners; owner < street.owners; owner++) {
            kept.in[owner] = now.in[owner];
        }
        now.become(kept);
        return keptShops;
    }

    public int count(int what) {
        switch (what) {
            case 0:
                return street.owners;
            case 1:
                return street.shops;
            case 2:
                return street.sorts;
            case 3:
                return testCount;
            case 4:
                return page.length;
            case 5:
                return now.soldBy(-1);
            case 6:
                return wrongCount;
            default:
                return OUTSIDE;
        }
    }

    public long digest() {
        long h = mixStreet(373L);
        h = mixSorts(h);
        h = mixTests(h);
        for (int i = 0; i < page.length; i++) {
            h = mix(h, page.letter[i]);
        }
        for (int what = 0; what <= 6; what++) {
            h = mix(h, count(what));
        }
        return h;
    }

    private static long mix(long h, long number) {
        return 31L * h + number;
    }

    private long mixStreet(long before) {
        long h = before;
        for (int owner = 0; owner < street.owners; owner++) {
            h = mix(h, street.kind[owner]);
            h = mix(h, street.n[owner]);
            h = mix(h, now.profitOf(owner));
        }
        for (int shop = 0; shop < street.shops; shop++) {
            for (int what = 0; what <= 5; what++) {
                h = mix(h, about(shop, what));
            }
        }
        return h;
    }

    private long mixSorts(long before) {
        long h = before;
        for (int sort = 0; sort < street.sorts; sort++) {
            h = mix(h, street.home[sort]);
            h = mix(h, street.many[sort]);
            h = mix(h, street.way[sort]);
            h = mix(h, street.worth[sort]);
            h = mix(h, street.liked[sort]);
            h = mix(h, street.liking[sort]);
            h = mix(h, now.choice(sort, NONE));
            h = mix(h, now.spareOf(sort));
        }
        return h;
    }

    private long mixTests(long before) {
        long h = before;
        for (int test = 0; test < testCount; test++) {
            for (int a = 0; a < street.owners; a++) {
                for (int b = a + 1; b < street.owners; b++) {
                    h = mix(h, isBarred(test, a, b) ? 1 : 0);
                }
            }
        }
        return h;
    }

    // ---- what calls are refused by

    private static boolean isNot(int value, int least, int most) {
        return value < least || value > most;
    }

    private boolean isNoOwner(int owner) {
        return isNot(owner, 0, street.owners - 1);
    }

    private boolean isNoShop(int shop) {
        return isNot(shop, 0, street.shops - 1);
    }

    private boolean isNoSort(int sort) {
        return isNot(sort, 0, street.sorts - 1);
    }

    private boolean isNoTest(int test) {
        return isNot(test, 0, testCount - 1);
    }

    private boolean areNotTwo(int a, int b) {
        return isNoOwner(a) || isNoOwner(b) || a == b;
    }

    private boolean areTooMany(int a, int b) {
        return now.shopsOf(a) + now.shopsOf(b) > SHOPS_OF_ONE;
    }

    /** What stays as it was told: owners' kinds, shops' places and costs, the sorts of people. */
    private static final class Street {
        int owners;
        int shops;
        int sorts;
        final int[] kind = new int[OWNERS];
        final int[] n = new int[OWNERS];
        final int[] place = new int[SHOPS];
        final int[] cost = new int[SHOPS];
        final int[] home = new int[SORTS];
        final int[] many = new int[SORTS];
        final int[] way = new int[SORTS];
        final int[] worth = new int[SORTS];
        final int[] liked = new int[SORTS];
        final int[] liking = new int[SORTS];
        /** What a shop is to a sort beside its price. */
        final int[][] beside = new int[SORTS][SHOPS];

        int addOwner(int kind, int n) {
            if (owners >= OWNERS) {
                return FULL;
            }
            this.kind[owners] = kind;
            this.n[owners] = n;
            owners++;
            return owners - 1;
        }

        int addShop(int place, int cost) {
            if (shops >= SHOPS) {
                return FULL;
            }
            this.place[shops] = place;
            this.cost[shops] = cost;
            shops++;
            for (int sort = 0; sort < sorts; sort++) {
                measure(sort, shops - 1);
            }
            return shops - 1;
        }

        int addSort(int home, int many, int way, int worth, int liked, int liking) {
            if (sorts >= SORTS) {
                return FULL;
            }
            this.home[sorts] = home;
            this.many[sorts] = many;
            this.way[sorts] = way;
            this.worth[sorts] = worth;
            this.liked[sorts] = liked;
            this.liking[sorts] = liking;
            sorts++;
            for (int shop = 0; shop < shops; shop++) {
                measure(sorts - 1, shop);
            }
            return sorts - 1;
        }

        private void measure(int sort, int shop) {
            int far = Math.abs(home[sort] - place[shop]);
            beside[sort][shop] = way[sort] * far - (liked[sort] == shop ? liking[sort] : 0);
        }

        /** What a shop costs its owner: a sparing one has it for n less. */
        int costTo(int owner, int shop) {
            return kind[owner] == SPARING ? Math.max(0, cost[shop] - n[owner]) : cost[shop];
        }
    }

    /** What changes: prices, whose the shops are, which comers are in; and who goes where by that. */
    private static final class Standing {
        private final Street street;
        final int[] price = new int[SHOPS];
        final int[] whose = new int[SHOPS];
        final boolean[] in = new boolean[OWNERS];

        Standing(Street street) {
            this.street = street;
        }

        void become(Standing other) {
            for (int shop = 0; shop < SHOPS; shop++) {
                price[shop] = other.price[shop];
                whose[shop] = other.whose[shop];
            }
            for (int owner = 0; owner < OWNERS; owner++) {
                in[owner] = other.in[owner];
            }
        }

        void give(int from, int to) {
            for (int shop = 0; shop < street.shops; shop++) {
                if (whose[shop] == from) {
                    whose[shop] = to;
                }
            }
        }

        int setOf(int owner) {
            int set = 0;
            for (int shop = 0; shop < street.shops; shop++) {
                if (whose[shop] == owner) {
                    set |= 1 << shop;
                }
            }
            return set;
        }

        int shopsOf(int owner) {
            return Integer.bitCount(setOf(owner));
        }

        boolean isOpen(int shop) {
            int owner = whose[shop];
            return street.kind[owner] != COMER || in[owner];
        }

        int openShops() {
            int set = 0;
            for (int shop = 0; shop < street.shops; shop++) {
                if (isOpen(shop)) {
                    set |= 1 << shop;
                }
            }
            return set;
        }

        /** The open shop nearest to a shop that is not in the set; or NONE. */
        int nearestOpen(int shop, int set) {
            int nearest = NONE;
            int least = FAR;
            for (int other = 0; other < street.shops; other++) {
                int far = Math.abs(street.place[other] - street.place[shop]);
                if ((set >> other & 1) == 0 && isOpen(other) && far < least) {
                    nearest = other;
                    least = far;
                }
            }
            return nearest;
        }

        int whatIs(int sort, int shop) {
            return price[shop] + street.beside[sort][shop];
        }

        /** Where a sort goes if one shop (or NONE) is shut. */
        int choice(int sort, int shut) {
            int chosen = NONE;
            int least = street.worth[sort] + 1;
            for (int shop = 0; shop < street.shops; shop++) {
                int is = whatIs(sort, shop);
                if (is < least && shop != shut && isOpen(shop)) {
                    chosen = shop;
                    least = is;
                }
            }
            return chosen;
        }

        int spareOf(int sort) {
            int shop = choice(sort, NONE);
            return shop == NONE ? 0 : street.worth[sort] - whatIs(sort, shop);
        }

        /** To how many a set of shops sells. */
        int soldBy(int set) {
            int people = 0;
            for (int sort = 0; sort < street.sorts; sort++) {
                int shop = choice(sort, NONE);
                if (shop != NONE && (set >> shop & 1) == 1) {
                    people += street.many[sort];
                }
            }
            return people;
        }

        int profitOf(int owner) {
            int profit = 0;
            for (int sort = 0; sort < street.sorts; sort++) {
                int shop = choice(sort, NONE);
                if (shop != NONE && whose[shop] == owner) {
                    profit += street.many[sort] * (price[shop] - street.costTo(owner, shop));
                }
            }
            return profit;
        }

        /** What a set of shops earns by the costs as they were told, whoever has them. */
        int marginOf(int set) {
            int margin = 0;
            for (int sort = 0; sort < street.sorts; sort++) {
                int shop = choice(sort, NONE);
                if (shop != NONE && (set >> shop & 1) == 1) {
                    margin += street.many[sort] * (price[shop] - street.cost[shop]);
                }
            }
            return margin;
        }
    }

    /** The best prices of an owner, all others' as they are; and rounds of them until they rest. */
    private static final class Bests {
        private final Street street;
        private final int[] own = new int[SHOPS_OF_ONE];
        private final int[] ownCost = new int[SHOPS_OF_ONE];
        private final int[] tried = new int[SHOPS_OF_ONE];
        private final int[] chosen = new int[SHOPS_OF_ONE];
        private int ownCount;
        /** Of each sort, with the first own shops priced: what its choice is to it, which, what that earns. */
        private final int[][] least = new int[SHOPS_OF_ONE + 1][SORTS];
        private final int[][] choice = new int[SHOPS_OF_ONE + 1][SORTS];
        private final int[][] earns = new int[SHOPS_OF_ONE + 1][SORTS];
        /** By the highest price at which they come to the last shop: how many, and what they earn elsewhere. */
        private final int[] comers = new int[TOP_PRICE + 1];
        private final int[] elsewhere = new int[TOP_PRICE + 1];
        int profit;
        boolean isIn;

        Bests(Street street) {
            this.street = street;
        }

        /** How many rounds change something until one changes nothing; NONE: it does not rest. */
        int settle(Standing standing) {
            for (int round = 0; round < ROUNDS; round++) {
                int changes = 0;
                for (int owner = 0; owner < street.owners; owner++) {
                    look(standing, owner);
                    changes += take(standing, owner);
                }
                if (changes == 0) {
                    return round;
                }
            }
            return NONE;
        }

        /** An owner takes its best that was found last: how much it changes. */
        int take(Standing standing, int owner) {
            int changes = 0;
            for (int i = 0; i < ownCount; i++) {
                if (standing.price[own[i]] != chosen[i]) {
                    standing.price[own[i]] = chosen[i];
                    changes++;
                }
            }
            if (standing.in[owner] != isIn) {
                standing.in[owner] = isIn;
                changes++;
            }
            return changes;
        }

        /** Finds an owner's best: its prices, its profit, whether it is in. */
        void look(Standing standing, int owner) {
            listShops(standing, owner);
            int kind = street.kind[owner];
            isIn = false;
            if (kind == TOLD) {
                profit = standing.profitOf(owner);
                return;
            }
            profit = 0;
            if (ownCount > 0) {
                profit = LOWEST;
                layOthers(standing, owner);
                if (kind == CHAIN || kind == COMER) {
                    tryOnePrice();
                } else {
                    tryPrices(0);
                }
            }
            if (kind == COMER) {
                isIn = profit > street.n[owner];
                if (!isIn) {
                    listShops(standing, owner);
                    profit = 0;
                }
            }
        }

        int priceOf(int shop) {
            for (int i = 0; i < ownCount; i++) {
                if (own[i] == shop) {
                    return chosen[i];
                }
            }
            return NONE;
        }

        /** The owner's shops, and their prices as they are. */
        private void listShops(Standing standing, int owner) {
            ownCount = 0;
            for (int shop = 0; shop < street.shops && ownCount < SHOPS_OF_ONE; shop++) {
                if (standing.whose[shop] == owner) {
                    own[ownCount] = shop;
                    ownCost[ownCount] = street.costTo(owner, shop);
                    chosen[ownCount] = standing.price[shop];
                    ownCount++;
                }
            }
        }

        /** Where each sort goes without the owner's shops; who does without has a choice just above its worth. */
        private void layOthers(Standing standing, int owner) {
            for (int sort = 0; sort < street.sorts; sort++) {
                least[0][sort] = street.worth[sort] + 1;
                choice[0][sort] = NONE;
                earns[0][sort] = 0;
                for (int shop = 0; shop < street.shops; shop++) {
                    int is = standing.whatIs(sort, shop);
                    if (is < least[0][sort] && standing.whose[shop] != owner && standing.isOpen(shop)) {
                        least[0][sort] = is;
                        choice[0][sort] = shop;
                    }
                }
            }
        }

        private void tryOnePrice() {
            for (int price = 0; price <= TOP_PRICE; price++) {
                for (int level = 0; level < ownCount; level++) {
                    putPrice(level, price);
                }
                int found = 0;
                for (int sort = 0; sort < street.sorts; sort++) {
                    found += street.many[sort] * earns[ownCount][sort];
                }
                keepIfBetter(found);
            }
        }

        /** All prices of the shops from this one on, those ahead of it as they are tried. */
        private void tryPrices(int level) {
            if (level >= ownCount - 1) {
                tryLastPrice(ownCount - 1);
                return;
            }
            for (int price = 0; price <= TOP_PRICE; price++) {
                putPrice(level, price);
                tryPrices(level + 1);
            }
        }

        /** Each sort stays or comes to this shop, as it is less to it by this price. */
        private void putPrice(int level, int price) {
            tried[level] = price;
            int shop = own[level];
            for (int sort = 0; sort < street.sorts; sort++) {
                boolean comes = price <= highestFor(level, sort);
                least[level + 1][sort] = comes ? price + street.beside[sort][shop] : least[level][sort];
                choice[level + 1][sort] = comes ? shop : choice[level][sort];
                earns[level + 1][sort] = comes ? price - ownCost[level] : earns[level][sort];
            }
        }

        /** The highest price of the shop of this level at which a sort leaves its choice for it. */
        private int highestFor(int level, int sort) {
            int shop = own[level];
            int alike = least[level][sort] - street.beside[sort][shop];
            return shop < choice[level][sort] ? alike : alike - 1;
        }

        /** All prices of the last shop at once: each sort comes up to one price, and above it stays. */
        private void tryLastPrice(int level) {
            for (int price = 0; price <= TOP_PRICE; price++) {
                comers[price] = 0;
                elsewhere[price] = 0;
            }
            int people = 0;
            int others = 0;
            for (int sort = 0; sort < street.sorts; sort++) {
                int earned = street.many[sort] * earns[level][sort];
                int highest = Math.min(TOP_PRICE, highestFor(level, sort));
                if (highest < 0) {
                    others += earned;
                } else {
                    people += street.many[sort];
                    comers[highest] += street.many[sort];
                    elsewhere[highest] += earned;
                }
            }
            for (int price = 0; price <= TOP_PRICE; price++) {
                tried[level] = price;
                keepIfBetter(others + people * (price - ownCost[level]));
                people -= comers[price];
                others += elsewhere[price];
            }
        }

        /** Prices are tried from the least on, so of like ones the first stays. */
        private void keepIfBetter(int found) {
            if (found > profit) {
                profit = found;
                for (int i = 0; i < ownCount; i++) {
                    chosen[i] = tried[i];
                }
            }
        }
    }

    /** What rests without and with owners made one, and how much dearer that is. */
    private static final class Joining {
        private final Street street;
        private final Bests bests;
        private final Standing before;
        private final Standing behind;
        private final int[] spareBefore = new int[SORTS];

        Joining(Street street, Bests bests) {
            this.street = street;
            this.bests = bests;
            before = new Standing(street);
            behind = new Standing(street);
        }

        boolean restsBefore(Standing now) {
            before.become(now);
            if (bests.settle(before) == NONE) {
                return false;
            }
            for (int sort = 0; sort < street.sorts; sort++) {
                spareBefore[sort] = before.spareOf(sort);
            }
            return true;
        }

        int roundsBehind(Standing now, int a, int b) {
            behind.become(now);
            behind.give(b, a);
            return bests.settle(behind);
        }

        int dearerFor(int sort) {
            return spareBefore[sort] - behind.spareOf(sort);
        }

        int harmInAll() {
            int harm = 0;
            for (int sort = 0; sort < street.sorts; sort++) {
                harm += Math.max(0, dearerFor(sort)) * street.many[sort];
            }
            return harm;
        }

        int sortsHarmed() {
            int set = 0;
            for (int sort = 0; sort < street.sorts; sort++) {
                if (dearerFor(sort) > 0) {
                    set |= 1 << sort;
                }
            }
            return set;
        }

        /** NONE: it does not rest. */
        int harmOf(Standing now, int a, int b) {
            behind.become(now);
            behind.give(b, a);
            return bests.settle(behind) == NONE ? NONE : harmInAll();
        }

        /** By how much it is dearest for a sort if c has that set of a's and b's shops; NEVER, if it does not rest. */
        int dearestWhenSold(Standing now, int a, int b, int c, int set) {
            behind.become(now);
            behind.give(b, a);
            for (int shop = 0; shop < street.shops; shop++) {
                if ((set >> shop & 1) == 1) {
                    behind.whose[shop] = c;
                }
            }
            if (bests.settle(behind) == NONE) {
                return NEVER;
            }
            int dearest = 0;
            for (int sort = 0; sort < street.sorts; sort++) {
                dearest = Math.max(dearest, dearerFor(sort));
            }
            return dearest;
        }
    }

    /** Letters in a row: the page, or a test that was read from it. */
    private static final class Text {
        final char[] letter = new char[LETTERS];
        int length;

        void append(char c) {
            if (length < LETTERS) {
                letter[length] = c;
                length++;
            }
        }

        void become(Text other) {
            length = other.length;
            for (int i = 0; i < length; i++) {
                letter[i] = other.letter[i];
            }
        }

        /** The letter at a place; behind the last one a sign that no text has. */
        char at(int place) {
            return place >= 0 && place < length ? letter[place] : 0;
        }

        static boolean isDigit(char c) {
            return c >= '0' && c <= '9';
        }
    }

    /** Which letters a test may have next, behind those ahead. */
    private static final class Grammar {
        private static final int FACTOR = 0, SIGN = 1, DIGIT = 2, NUMBER = 3, CLOSED = 4;
        private static final int DIGITS = 4;
        private int wants;
        private int open;
        private int digits;

        int firstFault(Text text) {
            wants = FACTOR;
            open = 0;
            for (int i = 0; i < text.length; i++) {
                if (!takes(text.at(i))) {
                    return i;
                }
            }
            return text.length;
        }

        boolean isTest(Text text) {
            return firstFault(text) == text.length && (wants == NUMBER || wants == CLOSED) && open == 0;
        }

        private boolean takes(char c) {
            switch (wants) {
                case FACTOR:
                    return takesFactor(c);
                case SIGN:
                    wants = DIGIT;
                    digits = 0;
                    return c == '<' || c == '=' || c == '>';
                case DIGIT:
                    return takesDigit(c);
                case NUMBER:
                    return takesDigit(c) || takesBehind(c);
                default:
                    return takesBehind(c);
            }
        }

        private boolean takesFactor(char c) {
            if (c == '(') {
                open++;
                return true;
            }
            if (c == '!') {
                return true;
            }
            wants = SIGN;
            return c == 's' || c == 'o' || c == 'r' || c == 'd';
        }

        private boolean takesDigit(char c) {
            if (!Text.isDigit(c) || digits >= DIGITS) {
                return false;
            }
            wants = NUMBER;
            digits++;
            return true;
        }

        private boolean takesBehind(char c) {
            if (c == ')' && open > 0) {
                open--;
                wants = CLOSED;
                return true;
            }
            wants = FACTOR;
            return c == '|' || c == '&';
        }
    }

    /** Weighs two owners as they stand, and reads tests of them. */
    private static final class Judge {
        private final Street street;
        private final int[] sold = new int[OWNERS];
        /** By how many brackets are open: whether a term held, all factors of this one do, the next is turned. */
        private final boolean[] any = new boolean[LETTERS + 1];
        private final boolean[] all = new boolean[LETTERS + 1];
        private final boolean[] turned = new boolean[LETTERS + 1];
        private int depth;
        private int share;
        private int sellers;
        private int product;
        private int distance;

        Judge(Street street) {
            this.street = street;
        }

        void weigh(Standing now, int a, int b) {
            countSold(now);
            int everybody = 0;
            sellers = sold[a] > 0 && sold[b] > 0 ? -1 : 0;
            for (int owner = 0; owner < street.owners; owner++) {
                everybody += sold[owner];
                sellers += sold[owner] > 0 ? 1 : 0;
            }
            share = hundredths(sold[a] + sold[b], everybody);
            product = 2 * hundredths(sold[a], everybody) * hundredths(sold[b], everybody);
            distance = leastDistance(now, a, b);
        }

        private void countSold(Standing now) {
            for (int owner = 0; owner < OWNERS; owner++) {
                sold[owner] = 0;
            }
            for (int sort = 0; sort < street.sorts; sort++) {
                int shop = now.choice(sort, NONE);
                if (shop != NONE) {
                    sold[now.whose[shop]] += street.many[sort];
                }
            }
        }

        private static int hundredths(int part, int all) {
            return all > 0 ? 100 * part / all : 0;
        }

        private int leastDistance(Standing now, int a, int b) {
            int least = FAR;
            for (int shop = 0; shop < street.shops; shop++) {
                for (int other = 0; other < street.shops; other++) {
                    boolean areTheirs = now.whose[shop] == a && now.whose[other] == b;
                    if (areTheirs && now.isOpen(shop) && now.isOpen(other)) {
                        least = Math.min(least, Math.abs(street.place[shop] - street.place[other]));
                    }
                }
            }
            return least;
        }

        /** Whether a test holds of the two that were weighed last. */
        boolean holds(Text test) {
            depth = 0;
            startTerms();
            for (int i = 0; i < test.length; i++) {
                readLetter(test, i);
            }
            return termsHold();
        }

        /** Signs, digits and "&" say nothing here: a comparison is read whole at its letter. */
        private void readLetter(Text test, int place) {
            switch (test.at(place)) {
                case '!':
                    turned[depth] = !turned[depth];
                    break;
                case '|':
                    any[depth] = any[depth] || all[depth];
                    all[depth] = true;
                    break;
                case '(':
                    if (depth < LETTERS) {
                        depth++;
                        startTerms();
                    }
                    break;
                case ')':
                    boolean inside = termsHold();
                    if (depth > 0) {
                        depth--;
                        takeFactor(inside);
                    }
                    break;
                case 's':
                    takeFactor(comparisonHolds(share, test, place + 1));
                    break;
                case 'o':
                    takeFactor(comparisonHolds(sellers, test, place + 1));
                    break;
                case 'r':
                    takeFactor(comparisonHolds(product, test, place + 1));
                    break;
                case 'd':
                    takeFactor(comparisonHolds(distance, test, place + 1));
                    break;
                default:
                    break;
            }
        }

        private void startTerms() {
            any[depth] = false;
            all[depth] = true;
            turned[depth] = false;
        }

        private void takeFactor(boolean holds) {
            all[depth] = all[depth] && holds != turned[depth];
            turned[depth] = false;
        }

        private boolean termsHold() {
            return any[depth] || all[depth];
        }

        /** A value, and the sign at a place with the digits behind it. */
        private static boolean comparisonHolds(int value, Text test, int place) {
            int number = 0;
            for (int i = place + 1; i < test.length && Text.isDigit(test.at(i)); i++) {
                number = 10 * number + test.at(i) - '0';
            }
            switch (test.at(place)) {
                case '<':
                    return value < number;
                case '=':
                    return value == number;
                default:
                    return value > number;
            }
        }
    }
}
