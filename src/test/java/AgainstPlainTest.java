import java.util.ArrayList;
import java.util.List;

/** Many runs of drawn calls (always the same ones), each answer held against that of PlainShops. */
public final class AgainstPlainTest {
    private static final int RUNS = 3000;
    private static final int SELDOM = 10;
    private static final int[] WILD = {Integer.MIN_VALUE, Integer.MAX_VALUE, -1002, -1001, -101, -2, -1, 4, 5, 6, 7, 8,
        9, 10, 30, 31, 50, 51, 99, 100};

    private static long seed;
    private static int wrong;
    /** How often something worth meeting was met: the drawing is no good if it never is. */
    private static final String[] MET = {"rests after rounds", "does not rest", "harm", "no harm", "dearer", "cheaper",
        "sold off nothing", "sold off some", "no set to sell", "twice", "lets", "barred", "market of more", "no market",
        "least market of others", "bars", "does not bar", "a test", "no test", "a comer comes", "a comer goes",
        "gain below 0", "restored", "nobody would", "goes elsewhere", "twice none", "least market of more"};
    private static final int[] met = new int[MET.length];

    private ShopsAsOne x = new ShopsAsOne();
    private PlainShops plain = new PlainShops();
    private final List<String> calls = new ArrayList<>();
    private boolean failed;

    private static int draw(int below) {
        seed = seed * 6364136223846793005L + 1442695040888963407L;
        return (int) ((seed >>> 33) % below);
    }

    private static int draw(int least, int most) {
        return least + draw(most - least + 1);
    }

    /** Mostly from 0 to most; at times one beside it, or anything. */
    private static int any(int least, int most) {
        int kind = draw(40);
        if (kind == 0) {
            return WILD[draw(WILD.length)];
        }
        return kind == 1 ? draw(least - 1, most + 1) : most < least ? least : draw(least, most);
    }

    private void due(String call, long got, long want) {
        calls.add(call + " = " + want);
        if (got != want && !failed) {
            failed = true;
            wrong++;
            System.out.println(String.join("; ", calls) + ": answered " + got);
        }
    }

    private static void meet(int what, boolean is) {
        met[what] += is ? 1 : 0;
    }

    private void build(int level) {
        int owners = level == 0 ? draw(0, 2) : draw(2, 6);
        for (int i = 0; i < owners; i++) {
            owner(draw(7) % 5, draw(3) == 0 ? draw(100) : draw(10));
        }
        int shops = draw(3) == 0 ? draw(0, 6) : draw(2, 4);
        int far = draw(2) == 0 ? 9 : draw(1, 9);
        for (int i = 0; i < shops; i++) {
            shop(any(0, plain.count(0) - 1), any(0, far), draw(3) == 0 ? draw(10) : draw(4), draw(10));
        }
        int sorts = draw(0, 8);
        int way = draw(6);
        for (int i = 0; i < sorts; i++) {
            int liked = draw(2) == 0 ? -1 : draw(-1, Math.max(-1, plain.count(1) - 1));
            sort(any(0, far), any(1, 50), draw(4) == 0 ? draw(6) : way, draw(4) == 0 ? draw(31) : draw(12), liked, any(0, 9));
        }
    }

    private void owner(int kind, int n) {
        due("owner(" + kind + ", " + n + ")", x.owner(kind, n), plain.owner(kind, n));
    }

    private void shop(int owner, int place, int cost, int price) {
        due("shop(" + owner + ", " + place + ", " + cost + ", " + price + ")", x.shop(owner, place, cost, price),
            plain.shop(owner, place, cost, price));
    }

    private void sort(int place, int many, int way, int worth, int liked, int liking) {
        due("sort(" + place + ", " + many + ", " + way + ", " + worth + ", " + liked + ", " + liking + ")",
            x.sort(place, many, way, worth, liked, liking), plain.sort(place, many, way, worth, liked, liking));
    }

    private int anyOwner() {
        return any(0, plain.count(0) - 1);
    }

    private int anyShop() {
        return any(0, plain.count(1) - 1);
    }

    private int anySort() {
        return any(0, plain.count(2) - 1);
    }

    private int anyTest() {
        return any(0, plain.count(3) - 1);
    }

    private static String factor(int depth) {
        int kind = draw(10);
        if (kind == 0) {
            return "!" + factor(depth);
        }
        if (kind <= 3 && depth > 0) {
            return "(" + terms(depth - 1) + ")";
        }
        int letter = draw(4);
        int most = new int[] {101, 7, 5000, 10}[letter];
        String number = draw(8) == 0 ? "00" + draw(100) : draw(8) == 0 ? "" + draw(100) * 100 : "" + draw(most);
        return "sord".charAt(letter) + "" + "<=>".charAt(draw(3)) + number;
    }

    private static String terms(int depth) {
        StringBuilder text = new StringBuilder(factor(depth));
        int more = draw(4) - 1;
        for (int i = 0; i < more; i++) {
            text.append("|&".charAt(draw(2))).append(factor(depth));
        }
        return text.toString();
    }

    private static String text() {
        int kind = draw(12);
        if (kind == 0) {
            int deep = draw(1, 24);
            return "(".repeat(deep) + "s<50" + ")".repeat(draw(4) == 0 ? draw(25) : deep);
        }
        if (kind == 1) {
            return "!".repeat(draw(48)) + "d>" + draw(6);
        }
        String text = terms(2);
        if (draw(3) == 0) {
            int place = draw(text.length());
            char sign = draw(9) == 0 ? (char) draw(1, 126) : "sord<=>&|!()0123".charAt(draw(16));
            text = text.substring(0, place) + (draw(2) == 0 ? "" : "" + sign)
                + text.substring(Math.min(text.length(), place + draw(2)));
        }
        return text;
    }

    private void letters(long w) {
        due("letters(" + w + ")", x.letters(w), plain.letters(w));
    }

    private void write(String text) {
        for (int i = 0; i < text.length(); i += 8) {
            long w = 0;
            for (int j = Math.min(text.length(), i + 8) - 1; j >= i; j--) {
                w = w << 8 | text.charAt(j);
            }
            letters(w);
        }
        due("fault()", x.fault(), plain.fault());
    }

    private void drawTest() {
        if (draw(5) != 0) {
            due("blank()", x.blank(), plain.blank());
        }
        write(text());
        int number = plain.test();
        due("test()", x.test(), number);
        meet(17, number >= 0);
        meet(18, number == PlainShops.STATE);
        if (number < 0 && draw(3) == 0) {
            letters(draw(3) == 0 ? -1L : (long) draw(127) << 8 * draw(8) | draw(256));
        }
    }

    private void callOfStreet() {
        int shop = anyShop();
        int sort = anySort();
        int owner = anyOwner();
        int what = any(0, 5);
        switch (draw(8)) {
            case 0 -> due("as(" + owner + ", " + what + ")", x.as(owner, what), plain.as(owner, what));
            case 1 -> due("about(" + shop + ", " + what + ")", x.about(shop, what), plain.about(shop, what));
            case 2 -> {
                int v = any(0, 9);
                due("price(" + shop + ", " + v + ")", x.price(shop, v), plain.price(shop, v));
            }
            case 3 -> due("is(" + sort + ", " + shop + ")", x.is(sort, shop), plain.is(sort, shop));
            case 4 -> due("goes(" + sort + ")", x.goes(sort), plain.goes(sort));
            case 5 -> due("spare(" + sort + ")", x.spare(sort), plain.spare(sort));
            case 6 -> due("profit(" + owner + ")", x.profit(owner), plain.profit(owner));
            default -> {
                int other = anyShop();
                int people = plain.from(shop, other);
                meet(24, people > 0);
                due("from(" + shop + ", " + other + ")", x.from(shop, other), people);
                due("instead(" + sort + ", " + shop + ")", x.instead(sort, shop), plain.instead(sort, shop));
            }
        }
    }

    private void turn(int owner) {
        int open = openShops();
        due("turn(" + owner + ")", x.turn(owner), plain.turn(owner));
        meet(19, openShops() > open);
        meet(20, openShops() < open);
    }

    /** Most shops sell for little then, so that a comer may have to go. */
    private void cheapen() {
        for (int shop = 0; shop < plain.count(1); shop++) {
            if (draw(4) != 0) {
                int v = draw(3);
                due("price(" + shop + ", " + v + ")", x.price(shop, v), plain.price(shop, v));
            }
        }
    }

    private int openShops() {
        int open = 0;
        for (int i = 0; i < plain.count(1); i++) {
            open += plain.about(i, 4);
        }
        return open;
    }

    private void callOfPrices() {
        int owner = anyOwner();
        int shop = anyShop();
        int what = any(0, 1);
        int k = any(1, 5);
        switch (draw(7)) {
            case 0 -> due("best(" + shop + ", " + what + ")", x.best(shop, what), plain.best(shop, what));
            case 1 -> {
                turn(owner);
                if (draw(3) == 0) {
                    cheapen();
                    turn(owner);
                }
            }
            case 2 -> {
                int rounds = plain.rest();
                meet(0, rounds > 2);
                meet(1, rounds == PlainShops.STATE);
                due("rest()", x.rest(), rounds);
            }
            case 3 -> {
                int who = plain.otherwise();
                meet(23, who == -1);
                due("otherwise()", x.otherwise(), who);
            }
            case 4, 5 -> {
                int gain = plain.gain(owner);
                meet(21, gain < 0 && gain > -1000000);
                due("gain(" + owner + ")", x.gain(owner), gain);
            }
            default -> {
                int near = plain.market(shop, k, false);
                int least = plain.market(shop, k, true);
                meet(12, near > 0 && Integer.bitCount(near) > 1);
                meet(13, near == -1);
                meet(14, near > 0 && least != near);
                meet(26, least > 0 && Integer.bitCount(least) > 1);
                due("market(" + shop + ", " + k + ", false)", x.market(shop, k, false), near);
                due("market(" + shop + ", " + k + ", true)", x.market(shop, k, true), least);
            }
        }
    }

    private void callOfTwo() {
        int a = anyOwner();
        int b = anyOwner();
        int c = anyOwner();
        int d = anyOwner();
        int what = any(0, 2);
        int t = any(0, 9);
        int sort = anySort();
        switch (draw(6)) {
            case 0 -> due("merge(" + a + ", " + b + ")", x.merge(a, b), plain.merge(a, b));
            case 1 -> {
                int dearer = plain.dearer(a, b, sort);
                meet(4, dearer > 0);
                meet(5, dearer < 0 && dearer > -1000);
                due("dearer(" + a + ", " + b + ", " + sort + ")", x.dearer(a, b, sort), dearer);
            }
            case 2 -> {
                int harm = plain.harm(a, b, what);
                meet(2, what == 0 && harm > 0);
                meet(3, what == 0 && harm == 0);
                due("harm(" + a + ", " + b + ", " + what + ")", x.harm(a, b, what), harm);
            }
            case 3 -> {
                int sold = plain.soldOff(a, b, c, t);
                meet(6, sold == 0);
                meet(7, sold > 0);
                meet(8, sold == -1);
                due("soldOff(" + a + ", " + b + ", " + c + ", " + t + ")", x.soldOff(a, b, c, t), sold);
            }
            case 4 -> {
                int harm = plain.twice(a, b, c, d, what);
                meet(9, harm > 0);
                meet(25, harm == -1);
                due("twice(" + a + ", " + b + ", " + c + ", " + d + ", " + what + ")", x.twice(a, b, c, d, what), harm);
            }
            default -> {
                int test = anyTest();
                int bars = plain.bars(test, a, b);
                meet(15, bars == 1);
                meet(16, bars == 0);
                due("bars(" + test + ", " + a + ", " + b + ")", x.bars(test, a, b), bars);
            }
        }
    }

    private void callOfWhatIsTold(int level) {
        int what = any(0, 6);
        switch (draw(7)) {
            case 0 -> due("image()", x.image(), plain.image());
            case 1 -> {
                int shops = plain.restore();
                meet(22, shops > 0);
                due("restore()", x.restore(), shops);
            }
            case 2 -> due("count(" + what + ")", x.count(what), plain.count(what));
            case 3 -> drawTest();
            case 4 -> {
                if (level == 0 || draw(3) == 0) {
                    build(level);
                } else {
                    owner(any(0, 4), any(0, 99));
                }
            }
            case 5 -> {
                int test = anyTest();
                int asked = any(0, 1);
                int pairs = plain.wrong(test, asked);
                meet(10, asked == 0 && pairs > 0);
                meet(11, asked == 1 && pairs > 0);
                due("wrong(" + test + ", " + asked + ")", x.wrong(test, asked), pairs);
            }
            default -> {
                letters((long) draw(2) << draw(64) | (long) draw(1 << 30) << draw(64));
                due("fault()", x.fault(), plain.fault());
            }
        }
    }

    private void run(int number) {
        seed = number * 7919L + 17;
        draw(2);
        int level = draw(10) == 0 ? 0 : 1;
        build(level);
        if (draw(3) != 0) {
            drawTest();
        }
        for (int i = 0; i < 60 && !failed; i++) {
            switch (draw(7)) {
                case 0, 1 -> callOfStreet();
                case 2, 3 -> callOfPrices();
                case 4, 5 -> callOfTwo();
                default -> callOfWhatIsTold(level);
            }
            if (draw(4) == 0) {
                due("digest()", x.digest(), plain.digest());
            }
        }
        due("digest()", x.digest(), plain.digest());
    }

    /** Arguments, if there are: how many runs, and the number of the first. */
    public static void main(String[] args) {
        int runs = args.length > 0 ? Integer.parseInt(args[0]) : RUNS;
        int first = args.length > 1 ? Integer.parseInt(args[1]) : 0;
        for (int i = first; i < first + runs && wrong < 5; i++) {
            new AgainstPlainTest().run(i);
        }
        for (int i = 0; i < MET.length; i++) {
            if (args.length > 0) {
                System.out.println(MET[i] + ": " + met[i]);
            }
            if (met[i] < SELDOM) {
                wrong++;
                System.out.println("met too seldom: " + MET[i] + ": " + met[i]);
            }
        }
        System.out.println(runs + " runs, " + wrong + " wrong");
        if (wrong != 0) {
            System.exit(1);
        }
    }
}
