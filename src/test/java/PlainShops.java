import java.util.ArrayList;
import java.util.List;
import java.util.TreeSet;

/**
 * The document's words over again, as slowly as they are told and with nothing from the class itself: what the class
 * answers is held against this by AgainstPlainTest.
 */
final class PlainShops {
    static final int NONE = -1, UNKNOWN = -101, OUTSIDE = -102, STATE = -103, FULL = -104;

    private static final class Owner {
        final int kind;
        final int n;
        boolean in;

        Owner(int kind, int n, boolean in) {
            this.kind = kind;
            this.n = n;
            this.in = in;
        }
    }

    private static final class Shop {
        final int place;
        final int cost;
        int price;
        int owner;

        Shop(int place, int cost, int price, int owner) {
            this.place = place;
            this.cost = cost;
            this.price = price;
            this.owner = owner;
        }
    }

    private record Sort(int place, int many, int way, int worth, int liked, int liking) { }

    /** Everything that a round can change, copied whole. */
    private static final class World {
        final List<Owner> owners = new ArrayList<>();
        final List<Shop> shops = new ArrayList<>();
        final List<Sort> sorts = new ArrayList<>();

        World copy() {
            World c = new World();
            for (Owner o : owners) {
                c.owners.add(new Owner(o.kind, o.n, o.in));
            }
            for (Shop s : shops) {
                c.shops.add(new Shop(s.place, s.cost, s.price, s.owner));
            }
            c.sorts.addAll(sorts);
            return c;
        }

        boolean open(int shop) {
            Owner o = owners.get(shops.get(shop).owner);
            return o.kind != 4 || o.in;
        }

        int is(int sort, int shop) {
            Sort p = sorts.get(sort);
            Shop s = shops.get(shop);
            return s.price + p.way * Math.abs(p.place - s.place) - (p.liked == shop ? p.liking : 0);
        }

        int goes(int sort, int shut) {
            int at = NONE;
            for (int i = shops.size() - 1; i >= 0; i--) {
                if (i != shut && open(i) && (at == NONE || is(sort, i) <= is(sort, at))) {
                    at = i;
                }
            }
            return at != NONE && is(sort, at) <= sorts.get(sort).worth ? at : NONE;
        }

        int spare(int sort) {
            int at = goes(sort, NONE);
            return at == NONE ? 0 : sorts.get(sort).worth - is(sort, at);
        }

        int sold(int shop) {
            int sold = 0;
            for (int i = 0; i < sorts.size(); i++) {
                if (goes(i, NONE) == shop) {
                    sold += sorts.get(i).many;
                }
            }
            return sold;
        }

        List<Integer> shopsOf(int owner) {
            List<Integer> own = new ArrayList<>();
            for (int i = 0; i < shops.size(); i++) {
                if (shops.get(i).owner == owner) {
                    own.add(i);
                }
            }
            return own;
        }

        int soldOf(int owner) {
            int sold = 0;
            for (int i : shopsOf(owner)) {
                sold += sold(i);
            }
            return sold;
        }

        int profit(int owner) {
            int profit = 0;
            Owner o = owners.get(owner);
            for (int i : shopsOf(owner)) {
                Shop s = shops.get(i);
                int cost = o.kind == 3 ? Math.max(0, s.cost - o.n) : s.cost;
                profit += open(i) ? sold(i) * (s.price - cost) : 0;
            }
            return profit;
        }

        /** The world in which that owner has taken its best. */
        World best(int owner) {
            Owner o = owners.get(owner);
            List<Integer> own = shopsOf(owner);
            if (o.kind == 2) {
                return copy();
            }
            World tried = copy();
            World found = null;
            int most = 0;
            if (o.kind == 4) {
                tried.owners.get(owner).in = true;
            }
            boolean one = o.kind == 1 || o.kind == 4;
            int ways = one ? 10 : (int) Math.round(Math.pow(10, own.size()));
            for (int way = 0; way < ways; way++) {
                int rest = way;
                for (int i = own.size() - 1; i >= 0; i--) {
                    tried.shops.get(own.get(i)).price = one ? way : rest % 10;
                    rest /= 10;
                }
                int profit = tried.profit(owner);
                if (found == null || profit > most) {
                    most = profit;
                    found = tried.copy();
                }
            }
            if (o.kind == 4 && most <= o.n) {
                found = copy();
                found.owners.get(owner).in = false;
            }
            return found;
        }

        int differs(World other) {
            int number = 0;
            for (int i = 0; i < shops.size(); i++) {
                number += shops.get(i).price != other.shops.get(i).price ? 1 : 0;
            }
            for (int i = 0; i < owners.size(); i++) {
                number += owners.get(i).in != other.owners.get(i).in ? 1 : 0;
            }
            return number;
        }

        void become(World other) {
            owners.clear();
            owners.addAll(other.owners);
            shops.clear();
            shops.addAll(other.shops);
        }

        /** How many rounds changed something; NONE: it does not rest. */
        int rest() {
            for (int round = 1; round <= 20; round++) {
                World was = copy();
                for (int i = 0; i < owners.size(); i++) {
                    become(best(i));
                }
                if (differs(was) == 0) {
                    return round - 1;
                }
            }
            return NONE;
        }

        void merge(int a, int b) {
            for (int i : shopsOf(b)) {
                shops.get(i).owner = a;
            }
        }
    }

    private World now = new World();
    private World kept;
    private int keptOwners;
    private String page = "";
    private final List<String> tests = new ArrayList<>();
    private int wrongs;

    private boolean noOwner(int owner) {
        return owner < 0 || owner >= now.owners.size();
    }

    private boolean noShop(int shop) {
        return shop < 0 || shop >= now.shops.size();
    }

    private boolean noSort(int sort) {
        return sort < 0 || sort >= now.sorts.size();
    }

    private boolean noOwners(int... owners) {
        TreeSet<Integer> all = new TreeSet<>();
        for (int owner : owners) {
            if (noOwner(owner) || !all.add(owner)) {
                return true;
            }
        }
        return false;
    }

    private boolean tooMany(int a, int b) {
        return now.shopsOf(a).size() + now.shopsOf(b).size() > 3;
    }

    int owner(int kind, int n) {
        if (kind < 0 || kind > 4 || n < 0 || n > 99) {
            return OUTSIDE;
        }
        if (now.owners.size() == 6) {
            return FULL;
        }
        now.owners.add(new Owner(kind, n, false));
        return now.owners.size() - 1;
    }

    int as(int owner, int kind) {
        if (noOwner(owner)) {
            return UNKNOWN;
        }
        if (kind < 0 || kind > 4) {
            return OUTSIDE;
        }
        int own = now.owners.get(owner).kind;
        return kind == 0 || own == kind || own == 4 && kind == 1 ? owner : NONE;
    }

    int shop(int owner, int place, int cost, int price) {
        if (noOwner(owner)) {
            return UNKNOWN;
        }
        if (place < 0 || place > 9 || cost < 0 || cost > 9 || price < 0 || price > 9) {
            return OUTSIDE;
        }
        if (now.shops.size() == 6 || now.shopsOf(owner).size() == 3) {
            return FULL;
        }
        now.shops.add(new Shop(place, cost, price, owner));
        return now.shops.size() - 1;
    }

    int about(int shop, int what) {
        if (noShop(shop)) {
            return UNKNOWN;
        }
        if (what < 0 || what > 5) {
            return OUTSIDE;
        }
        Shop s = now.shops.get(shop);
        return new int[] {s.owner, s.place, s.cost, s.price, now.open(shop) ? 1 : 0, now.sold(shop)}[what];
    }

    int price(int shop, int v) {
        if (noShop(shop)) {
            return UNKNOWN;
        }
        if (v < 0 || v > 9) {
            return OUTSIDE;
        }
        int was = now.shops.get(shop).price;
        now.shops.get(shop).price = v;
        return was;
    }

    int sort(int place, int many, int way, int worth, int liked, int liking) {
        if (place < 0 || place > 9 || many < 1 || many > 50 || way < 0 || way > 5 || worth < 0 || worth > 30
                || liking < 0 || liking > 9) {
            return OUTSIDE;
        }
        if (liked != -1 && noShop(liked)) {
            return UNKNOWN;
        }
        if (now.sorts.size() == 8) {
            return FULL;
        }
        now.sorts.add(new Sort(place, many, way, worth, liked, liking));
        return now.sorts.size() - 1;
    }

    int is(int sort, int shop) {
        return noSort(sort) || noShop(shop) ? -1001 : now.is(sort, shop);
    }

    int goes(int sort) {
        return noSort(sort) ? UNKNOWN : now.goes(sort, NONE);
    }

    int spare(int sort) {
        return noSort(sort) ? UNKNOWN : now.spare(sort);
    }

    int profit(int owner) {
        return noOwner(owner) ? -1000001 : now.profit(owner);
    }

    int best(int shop, int what) {
        if (noShop(shop)) {
            return UNKNOWN;
        }
        if (what < 0 || what > 1) {
            return OUTSIDE;
        }
        World then = now.best(now.shops.get(shop).owner);
        return what == 0 ? then.shops.get(shop).price : then.open(shop) ? 1 : 0;
    }

    int turn(int owner) {
        if (noOwner(owner)) {
            return UNKNOWN;
        }
        World was = now;
        now = now.best(owner);
        return now.differs(was);
    }

    int rest() {
        World then = now.copy();
        int rounds = then.rest();
        if (rounds == NONE) {
            return STATE;
        }
        now = then;
        return rounds;
    }

    int otherwise() {
        for (int i = 0; i < now.owners.size(); i++) {
            if (gain(i) > 0) {
                return i;
            }
        }
        return NONE;
    }

    int gain(int owner) {
        return noOwner(owner) ? -1000001 : now.best(owner).profit(owner) - now.profit(owner);
    }

    private boolean pays(TreeSet<Integer> set, int k) {
        World then = now.copy();
        int before = 0;
        int after = 0;
        for (int i : set) {
            then.shops.get(i).price = Math.min(9, then.shops.get(i).price + k);
        }
        for (int i : set) {
            before += now.sold(i) * (now.shops.get(i).price - now.shops.get(i).cost);
            after += then.sold(i) * (then.shops.get(i).price - then.shops.get(i).cost);
        }
        return after >= before;
    }

    private static int bits(Iterable<Integer> set) {
        int bits = 0;
        for (int i : set) {
            bits += 1 << i;
        }
        return bits;
    }

    private static TreeSet<Integer> set(int bits) {
        TreeSet<Integer> set = new TreeSet<>();
        for (int i = 0; i < 31; i++) {
            if ((bits & 1 << i) != 0) {
                set.add(i);
            }
        }
        return set;
    }

    int market(int shop, int k, boolean least) {
        if (noShop(shop)) {
            return UNKNOWN;
        }
        if (k < 1 || k > 5) {
            return OUTSIDE;
        }
        if (!now.open(shop)) {
            return STATE;
        }
        List<Integer> open = new ArrayList<>();
        for (int i = 0; i < now.shops.size(); i++) {
            if (now.open(i) && i != shop) {
                open.add(i);
            }
        }
        if (!least) {
            open.sort((x, y) -> {
                int p = now.shops.get(shop).place;
                int fx = Math.abs(now.shops.get(x).place - p);
                int fy = Math.abs(now.shops.get(y).place - p);
                return fx != fy ? fx - fy : x - y;
            });
            for (int size = 0; size <= open.size(); size++) {
                TreeSet<Integer> set = new TreeSet<>(open.subList(0, size));
                set.add(shop);
                if (pays(set, k)) {
                    return bits(set);
                }
            }
            return NONE;
        }
        int found = NONE;
        for (int b = 0; b < 64; b++) {
            TreeSet<Integer> set = set(b);
            boolean fits = set.remove(shop) && open.containsAll(set);
            set.add(shop);
            if (fits && pays(set, k) && (found == NONE || set.size() < Integer.bitCount(found))) {
                found = b;
            }
        }
        return found;
    }

    int instead(int sort, int shop) {
        return noSort(sort) || noShop(shop) ? UNKNOWN : now.goes(sort, shop);
    }

    int from(int shop, int other) {
        if (noShop(shop) || noShop(other) || shop == other) {
            return UNKNOWN;
        }
        int people = 0;
        for (int i = 0; i < now.sorts.size(); i++) {
            people += now.goes(i, NONE) == shop && now.goes(i, shop) == other ? now.sorts.get(i).many : 0;
        }
        return people;
    }

    int merge(int a, int b) {
        if (noOwners(a, b)) {
            return UNKNOWN;
        }
        if (tooMany(a, b)) {
            return STATE;
        }
        now.merge(a, b);
        return now.shopsOf(a).size();
    }

    /** What rests from now with shops given away by pairs of (who has them then, whose they are); null: nothing. */
    private World rested(int... pairs) {
        World then = now.copy();
        for (int i = 0; i < pairs.length; i += 2) {
            then.merge(pairs[i], pairs[i + 1]);
        }
        return then.rest() == NONE ? null : then;
    }

    private int harm(World before, World behind) {
        if (before == null || behind == null) {
            return NONE;
        }
        int harm = 0;
        for (int i = 0; i < now.sorts.size(); i++) {
            harm += Math.max(0, before.spare(i) - behind.spare(i)) * now.sorts.get(i).many;
        }
        return harm;
    }

    int dearer(int a, int b, int sort) {
        if (noOwners(a, b) || noSort(sort)) {
            return -1001;
        }
        if (tooMany(a, b)) {
            return -1002;
        }
        World before = rested();
        World behind = rested(a, b);
        return before == null || behind == null ? -1002 : before.spare(sort) - behind.spare(sort);
    }

    int harm(int a, int b, int what) {
        if (noOwners(a, b)) {
            return UNKNOWN;
        }
        if (what < 0 || what > 2) {
            return OUTSIDE;
        }
        if (tooMany(a, b)) {
            return STATE;
        }
        World before = rested();
        World behind = now.copy();
        behind.merge(a, b);
        int rounds = behind.rest();
        if (before == null || rounds == NONE) {
            return NONE;
        }
        int sorts = 0;
        for (int i = 0; i < now.sorts.size(); i++) {
            sorts |= before.spare(i) > behind.spare(i) ? 1 << i : 0;
        }
        return what == 0 ? harm(before, behind) : what == 1 ? sorts : rounds;
    }

    int soldOff(int a, int b, int c, int t) {
        if (noOwners(a, b, c)) {
            return UNKNOWN;
        }
        if (t < 0 || t > 9) {
            return OUTSIDE;
        }
        if (tooMany(a, b)) {
            return STATE;
        }
        World before = rested();
        if (before == null) {
            return NONE;
        }
        List<Integer> theirs = now.shopsOf(a);
        theirs.addAll(now.shopsOf(b));
        int found = NONE;
        for (int bits = 0; bits < 64; bits++) {
            TreeSet<Integer> sold = set(bits);
            if (!theirs.containsAll(sold) || now.shopsOf(c).size() + sold.size() > 3) {
                continue;
            }
            World behind = now.copy();
            behind.merge(a, b);
            for (int i : sold) {
                behind.shops.get(i).owner = c;
            }
            boolean fits = behind.rest() != NONE;
            for (int i = 0; fits && i < now.sorts.size(); i++) {
                fits = before.spare(i) - behind.spare(i) <= t;
            }
            if (fits && (found == NONE || sold.size() < Integer.bitCount(found))) {
                found = bits;
            }
        }
        return found;
    }

    int twice(int a, int b, int c, int d, int what) {
        if (noOwners(a, b, c, d)) {
            return UNKNOWN;
        }
        if (what < 0 || what > 2) {
            return OUTSIDE;
        }
        if (tooMany(a, b) || tooMany(c, d)) {
            return STATE;
        }
        World before = rested();
        int[] harms = {harm(before, rested(a, b)), harm(before, rested(c, d)), harm(before, rested(a, b, c, d))};
        for (int harm : harms) {
            if (harm == NONE) {
                return NONE;
            }
        }
        return harms[what];
    }

    int letters(long w) {
        StringBuilder more = new StringBuilder();
        String signs = "";
        for (int i = 0; i < 8; i++) {
            int code = (int) (w >> 8 * i) & 255;
            if (code > 126) {
                return OUTSIDE;
            }
            signs += (char) code;
        }
        int end = signs.indexOf(0);
        more.append(end < 0 ? signs : signs.substring(0, end));
        for (int i = more.length(); i < 8; i++) {
            if (signs.charAt(i) != 0) {
                return OUTSIDE;
            }
        }
        if (page.length() + more.length() > 50) {
            return FULL;
        }
        page += more;
        return page.length();
    }

    int blank() {
        int had = page.length();
        page = "";
        return had;
    }

    /** A letter may stand there if some end makes a test of what is read up to it. */
    int fault() {
        for (int i = 0; i < page.length(); i++) {
            if (!canBeEnded(page.substring(0, i + 1))) {
                return i;
            }
        }
        return page.length();
    }

    private static boolean canBeEnded(String start) {
        for (String end : new String[] {"", "1", "<1", "s<1"}) {
            for (int brackets = 0; brackets <= 50; brackets++) {
                if (Reader.isTest(start + end + ")".repeat(brackets))) {
                    return true;
                }
            }
        }
        return false;
    }

    int test() {
        if (!Reader.isTest(page)) {
            return STATE;
        }
        if (tests.size() == 4) {
            return FULL;
        }
        tests.add(page);
        page = "";
        return tests.size() - 1;
    }

    int bars(int test, int a, int b) {
        if (test < 0 || test >= tests.size() || noOwners(a, b)) {
            return UNKNOWN;
        }
        int all = 0;
        TreeSet<Integer> sellers = new TreeSet<>();
        for (int i = 0; i < now.owners.size(); i++) {
            all += now.soldOf(i);
            if (now.soldOf(i) > 0) {
                sellers.add(i == b ? a : i);
            }
        }
        int s = all == 0 ? 0 : (now.soldOf(a) + now.soldOf(b)) * 100 / all;
        int sa = all == 0 ? 0 : now.soldOf(a) * 100 / all;
        int sb = all == 0 ? 0 : now.soldOf(b) * 100 / all;
        int d = 99;
        for (int i : now.shopsOf(a)) {
            for (int j : now.shopsOf(b)) {
                if (now.open(i) && now.open(j)) {
                    d = Math.min(d, Math.abs(now.shops.get(i).place - now.shops.get(j).place));
                }
            }
        }
        return new Reader(tests.get(test), s, sellers.size(), 2 * sa * sb, d).terms() ? 1 : 0;
    }

    int wrong(int test, int what) {
        if (test < 0 || test >= tests.size()) {
            return UNKNOWN;
        }
        if (what < 0 || what > 1) {
            return OUTSIDE;
        }
        if (wrongs == 6) {
            return STATE;
        }
        wrongs++;
        World before = rested();
        int pairs = 0;
        for (int a = 0; a < now.owners.size(); a++) {
            for (int b = a + 1; b < now.owners.size(); b++) {
                if (tooMany(a, b) || before == null) {
                    continue;
                }
                int harm = harm(before, rested(a, b));
                boolean barred = bars(test, a, b) == 1;
                pairs += what == 0 && !barred && harm > 0 || what == 1 && barred && harm == 0 ? 1 : 0;
            }
        }
        return pairs;
    }

    int image() {
        kept = now.copy();
        keptOwners = now.owners.size();
        return now.shops.size();
    }

    int restore() {
        if (kept == null || kept.shops.size() != now.shops.size()) {
            return STATE;
        }
        for (int i = 0; i < now.shops.size(); i++) {
            now.shops.get(i).price = kept.shops.get(i).price;
            now.shops.get(i).owner = kept.shops.get(i).owner;
        }
        for (int i = 0; i < keptOwners; i++) {
            now.owners.get(i).in = kept.owners.get(i).in;
        }
        return now.shops.size();
    }

    int count(int what) {
        int sold = 0;
        for (int i = 0; i < now.shops.size(); i++) {
            sold += now.sold(i);
        }
        int[] all = {now.owners.size(), now.shops.size(), now.sorts.size(), tests.size(), page.length(), sold, wrongs};
        return what < 0 || what > 6 ? OUTSIDE : all[what];
    }

    long digest() {
        List<Long> numbers = new ArrayList<>();
        for (int i = 0; i < now.owners.size(); i++) {
            add(numbers, now.owners.get(i).kind, now.owners.get(i).n, profit(i));
        }
        for (int i = 0; i < now.shops.size(); i++) {
            add(numbers, about(i, 0), about(i, 1), about(i, 2), about(i, 3), about(i, 4), about(i, 5));
        }
        for (int i = 0; i < now.sorts.size(); i++) {
            Sort s = now.sorts.get(i);
            add(numbers, s.place, s.many, s.way, s.worth, s.liked, s.liking, goes(i), spare(i));
        }
        for (int i = 0; i < tests.size(); i++) {
            for (int a = 0; a < now.owners.size(); a++) {
                for (int b = a + 1; b < now.owners.size(); b++) {
                    add(numbers, bars(i, a, b));
                }
            }
        }
        for (char c : page.toCharArray()) {
            add(numbers, c);
        }
        add(numbers, count(0), count(1), count(2), count(3), count(4), count(5), count(6));
        long h = 373;
        for (long number : numbers) {
            h = 31 * h + number;
        }
        return h;
    }

    private static void add(List<Long> numbers, int... more) {
        for (int number : more) {
            numbers.add((long) number);
        }
    }

    /** Reads a test by its rules from the left, each rule a method; IllegalStateException: it is none. */
    private static final class Reader {
        private final String text;
        private final int s;
        private final int o;
        private final int r;
        private final int d;
        private int at;

        Reader(String text, int s, int o, int r, int d) {
            this.text = text;
            this.s = s;
            this.o = o;
            this.r = r;
            this.d = d;
        }

        static boolean isTest(String text) {
            Reader reader = new Reader(text, 0, 0, 0, 0);
            try {
                reader.terms();
                return reader.at == text.length();
            } catch (IllegalStateException e) {
                return false;
            }
        }

        private char peek() {
            return at < text.length() ? text.charAt(at) : 0;
        }

        boolean terms() {
            boolean holds = term();
            while (peek() == '|') {
                at++;
                holds = term() || holds;
            }
            return holds;
        }

        private boolean term() {
            boolean holds = factor();
            while (peek() == '&') {
                at++;
                holds = factor() && holds;
            }
            return holds;
        }

        private boolean factor() {
            char c = peek();
            at++;
            if (c == '!') {
                return !factor();
            }
            if (c == '(') {
                boolean holds = terms();
                if (peek() != ')') {
                    throw new IllegalStateException();
                }
                at++;
                return holds;
            }
            int letter = "sord".indexOf(c);
            char sign = peek();
            if (letter < 0 || c == 0 || sign == 0 || "<=>".indexOf(sign) < 0) {
                throw new IllegalStateException();
            }
            at++;
            int start = at;
            while (at < text.length() && at < start + 4 && Character.isDigit(peek())) {
                at++;
            }
            if (at == start) {
                throw new IllegalStateException();
            }
            int value = new int[] {s, o, r, d}[letter];
            int number = Integer.parseInt(text.substring(start, at));
            return sign == '<' ? value < number : sign == '=' ? value == number : value > number;
        }
    }
}
