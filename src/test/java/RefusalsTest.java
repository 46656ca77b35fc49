import java.util.ArrayList;
import java.util.HashMap;
import java.util.List;
import java.util.Map;
import java.util.function.Supplier;
import java.util.function.ToLongFunction;

/**
 * "Refusals, of several the first as told by each call; they change nothing": each call with each set of its arguments
 * wrong at once, on three streets. What refused calls leave behind is held against a street that was not asked.
 */
public final class RefusalsTest extends Edges {
    private static final int BATCH = 100;

    private interface Face {
        long call(ShopsAsOne x, int[] a);
    }

    /** What a call takes: of each argument the least and the most, and what it is refused with else. */
    private static final class Call {
        final int promise;
        final String name;
        final Face face;
        final int unknown;
        final List<int[]> taken = new ArrayList<>();
        int others;
        boolean isOutsideFirst;

        Call(int promise, String name, int unknown, Face face) {
            this.promise = promise;
            this.name = name;
            this.unknown = unknown;
            this.face = face;
        }

        Call known(int many) {
            taken.add(new int[] {0, many - 1, unknown});
            return this;
        }

        /** A number more that names one of so many, and is another one than those ahead of it. */
        Call another(int many) {
            others |= 1 << taken.size();
            return known(many);
        }

        Call within(int least, int most) {
            taken.add(new int[] {least, most, OUTSIDE});
            return this;
        }

        /** The refusal of these arguments; 0: it is not for them that it is refused. */
        int refusal(int[] a) {
            boolean isUnknown = false;
            boolean isOutside = false;
            for (int i = 0; i < a.length; i++) {
                int[] t = taken.get(i);
                boolean isWrong = a[i] < t[0] || a[i] > t[1];
                isOutside |= isWrong && t[2] == OUTSIDE;
                isUnknown |= isWrong && t[2] != OUTSIDE;
                for (int j = 0; j < i; j++) {
                    isUnknown |= (others >> i & 1) == 1 && (others >> j & 1) == 1 && a[i] == a[j];
                }
            }
            if (isOutsideFirst) {
                return isOutside ? OUTSIDE : isUnknown ? unknown : 0;
            }
            return isUnknown ? unknown : isOutside ? OUTSIDE : 0;
        }
    }

    private static Map<String, Call> calls(int owners, int shops, int sorts, int tests) {
        List<Call> all = new ArrayList<>();
        all.add(new Call(2, "owner", UNKNOWN, (x, a) -> x.owner(a[0], a[1])).within(0, 4).within(0, 99));
        all.add(new Call(3, "as", UNKNOWN, (x, a) -> x.as(a[0], a[1])).known(owners).within(0, 4));
        all.add(new Call(4, "shop", UNKNOWN, (x, a) -> x.shop(a[0], a[1], a[2], a[3])).known(owners)
            .within(0, 9).within(0, 9).within(0, 9));
        all.add(new Call(5, "about", UNKNOWN, (x, a) -> x.about(a[0], a[1])).known(shops).within(0, 5));
        all.add(new Call(6, "price", UNKNOWN, (x, a) -> x.price(a[0], a[1])).known(shops).within(0, 9));
        Call sort = new Call(7, "sort", UNKNOWN, (x, a) -> x.sort(a[0], a[1], a[2], a[3], a[4], a[5])).within(0, 9)
            .within(1, 50).within(0, 5).within(0, 30);
        sort.taken.add(new int[] {NONE, shops - 1, UNKNOWN});
        sort.within(0, 9).isOutsideFirst = true;
        all.add(sort);
        all.add(new Call(8, "is", NO_IS, (x, a) -> x.is(a[0], a[1])).known(sorts).known(shops));
        all.add(new Call(9, "goes", UNKNOWN, (x, a) -> x.goes(a[0])).known(sorts));
        all.add(new Call(10, "spare", UNKNOWN, (x, a) -> x.spare(a[0])).known(sorts));
        all.add(new Call(11, "profit", NO_PROFIT, (x, a) -> x.profit(a[0])).known(owners));
        all.add(new Call(12, "best", UNKNOWN, (x, a) -> x.best(a[0], a[1])).known(shops).within(0, 1));
        all.add(new Call(13, "turn", UNKNOWN, (x, a) -> x.turn(a[0])).known(owners));
        all.add(new Call(16, "gain", NO_PROFIT, (x, a) -> x.gain(a[0])).known(owners));
        all.add(new Call(17, "market", UNKNOWN, (x, a) -> x.market(a[0], a[1], false)).known(shops).within(1, 5));
        all.add(new Call(17, "least market", UNKNOWN, (x, a) -> x.market(a[0], a[1], true)).known(shops).within(1, 5));
        all.add(new Call(18, "instead", UNKNOWN, (x, a) -> x.instead(a[0], a[1])).known(sorts).known(shops));
        all.add(new Call(19, "from", UNKNOWN, (x, a) -> x.from(a[0], a[1])).another(shops).another(shops));
        all.add(new Call(20, "merge", UNKNOWN, (x, a) -> x.merge(a[0], a[1])).another(owners).another(owners));
        all.add(new Call(21, "dearer", NO_IS, (x, a) -> x.dearer(a[0], a[1], a[2])).another(owners).another(owners)
            .known(sorts));
        all.add(new Call(22, "harm", UNKNOWN, (x, a) -> x.harm(a[0], a[1], a[2])).another(owners).another(owners)
            .within(0, 2));
        all.add(new Call(23, "soldOff", UNKNOWN, (x, a) -> x.soldOff(a[0], a[1], a[2], a[3])).another(owners)
            .another(owners).another(owners).within(0, 9));
        all.add(new Call(24, "twice", UNKNOWN, (x, a) -> x.twice(a[0], a[1], a[2], a[3], a[4])).another(owners)
            .another(owners).another(owners).another(owners).within(0, 2));
        all.add(new Call(29, "bars", UNKNOWN, (x, a) -> x.bars(a[0], a[1], a[2])).known(tests).another(owners)
            .another(owners));
        all.add(new Call(30, "wrong", UNKNOWN, (x, a) -> x.wrong(a[0], a[1])).known(tests).within(0, 1));
        all.add(new Call(33, "count", UNKNOWN, (x, a) -> x.count(a[0])).within(0, 6));
        Map<String, Call> byName = new HashMap<>();
        for (Call call : all) {
            byName.put(call.name, call);
        }
        return byName;
    }

    /** Refused calls of one kind, gathered, and made on one street. */
    private static final class Batch {
        private final Supplier<ShopsAsOne> street;
        private final List<String> texts = new ArrayList<>();
        private final List<ToLongFunction<ShopsAsOne>> asked = new ArrayList<>();
        private final List<Long> due = new ArrayList<>();

        Batch(Supplier<ShopsAsOne> street) {
            this.street = street;
        }

        void add(String text, ToLongFunction<ShopsAsOne> call, long refusal) {
            texts.add(text);
            asked.add(call);
            due.add(refusal);
            if (texts.size() == BATCH) {
                ask();
            }
        }

        void ask() {
            ShopsAsOne x = street.get();
            ShopsAsOne y = street.get();
            for (int i = 0; i < texts.size(); i++) {
                refused(x, texts.get(i), asked.get(i), due.get(i));
            }
            List<Long> got = probe(x);
            List<Long> want = probe(y);
            for (int i = 0; i < want.size(); i++) {
                due("what is asked as number " + i + " behind " + texts, got.get(i), want.get(i));
            }
            texts.clear();
            asked.clear();
            due.clear();
        }
    }

    /** Asks for all that a refused call might have changed, also for what digest() does not tell. */
    private static List<Long> probe(ShopsAsOne x) {
        List<Long> all = new ArrayList<>();
        all.add(x.digest());
        for (int i = 0; i < 6; i++) {
            all.add((long) x.best(i, 0));
            all.add((long) x.best(i, 1));
            all.add((long) x.gain(i));
            all.add((long) x.market(i, 1, i % 2 == 0));
        }
        all.add((long) x.otherwise());
        all.add((long) x.harm(1, 2, 0));
        all.add((long) x.soldOff(1, 2, 3, 0));
        all.add((long) x.twice(1, 2, 3, 0, 2));
        all.add((long) x.fault());
        all.add((long) x.restore());
        all.add(x.digest());
        all.add((long) x.test());
        all.add((long) x.wrong(0, 0));
        all.add(x.digest());
        all.add((long) x.owner(4, 1));
        for (int i = 0; i < 6; i++) {
            all.add((long) x.turn(i));
            all.add((long) x.shop(i, i, i, i));
        }
        all.add((long) x.sort(5, 5, 5, 5, 1, 5));
        all.add(x.digest());
        all.add((long) x.merge(1, 2));
        all.add((long) x.rest());
        all.add(x.digest());
        all.add((long) x.restore());
        all.add((long) x.blank());
        all.add(x.digest());
        return all;
    }

    private final Supplier<ShopsAsOne> street;
    private final Map<String, Call> calls;

    private RefusalsTest(Supplier<ShopsAsOne> street) {
        this.street = street;
        ShopsAsOne x = street.get();
        calls = calls(x.count(0), x.count(1), x.count(2), x.count(3));
    }

    /** These arguments are refused by what there is; with others wrong, too, it is for these. 0: they are not refused. */
    private void refuse(String name, int due, int... good) {
        Call call = calls.get(name);
        edge(call.promise, "of several the first as told by each call: " + name);
        Batch batch = new Batch(street);
        if (due != 0) {
            addTo(batch, call, due, good);
        }
        for (int set = 1; set < 1 << good.length; set++) {
            for (int turn = 0; turn < beside(0, 0).length; turn++) {
                addTo(batch, call, due, with(call, good, set, turn));
            }
        }
        for (int i = 0; i < good.length; i++) {
            for (int j = 0; j < good.length; j++) {
                int[] same = good.clone();
                same[i] = good[j];
                if (call.refusal(same) != 0) {
                    addTo(batch, call, due, same);
                }
            }
        }
        batch.ask();
    }

    /** The arguments of a set each become another number that is not taken. */
    private static int[] with(Call call, int[] good, int set, int turn) {
        int[] a = good.clone();
        for (int i = 0; i < a.length; i++) {
            int[] bad = beside(call.taken.get(i)[0], call.taken.get(i)[1]);
            if ((set >> i & 1) == 1) {
                a[i] = bad[(turn + 3 * i) % bad.length];
            }
        }
        return a;
    }

    private static void addTo(Batch batch, Call call, int due, int[] a) {
        int refusal = call.refusal(a);
        StringBuilder text = new StringBuilder(call.name);
        for (int number : a) {
            text.append(' ').append(number);
        }
        batch.add(text.toString(), x -> call.face.call(x, a), refusal != 0 ? refusal : due);
    }

    private void refuseLetters(int due, String more) {
        edge(25, "OUTSIDE: a byte above 126, or one behind a 0 that is not 0; FULL: above 50");
        Batch batch = new Batch(street);
        for (long w : new long[] {127, 255, -1, Long.MIN_VALUE, Long.MAX_VALUE, 0x7e7f7e7e7e7e7e7eL, 0x0100L, 0x010001L,
            0x8000000000000001L, 0x7e7e7e7e7e7e007eL, 0x7e7e7e7e7e7e7e80L}) {
            batch.add("letters " + w, x -> x.letters(w), OUTSIDE);
        }
        if (due != 0) {
            batch.add("letters of " + more, x -> x.letters(Streets.packed(more)), due);
        }
        batch.ask();
    }

    private void refuseAlone(int promise, String name, ToLongFunction<ShopsAsOne> call, int due) {
        edge(promise, "they change nothing: " + name);
        Batch batch = new Batch(street);
        batch.add(name, call, due);
        batch.ask();
    }

    /** Whatever the street: numbers that name nothing, and what is not as told. */
    private void refuseArguments(int owner, int other, int shop) {
        refuse("as", 0, owner, 0);
        refuse("about", 0, shop, 0);
        refuse("price", 0, shop, 3);
        refuse("is", 0, 0, shop);
        refuse("goes", 0, 0);
        refuse("spare", 0, 0);
        refuse("profit", 0, owner);
        refuse("best", 0, shop, 1);
        refuse("turn", 0, owner);
        refuse("gain", 0, owner);
        refuse("instead", 0, 0, shop);
        refuse("from", 0, shop, shop == 0 ? 1 : 0);
        refuse("bars", 0, 0, owner, other);
        refuse("count", 0, 6);
    }

    private static void allFull() {
        RefusalsTest full = new RefusalsTest(Streets::full);
        full.refuseArguments(5, 0, 5);
        full.refuse("owner", FULL, 4, 99);
        full.refuse("shop", FULL, 0, 9, 9, 9);
        full.refuse("shop", FULL, 2, 0, 0, 0);
        full.refuse("sort", FULL, 9, 50, 5, 30, 5, 9);
        full.refuse("sort", FULL, 0, 1, 0, 0, NONE, 0);
        full.refuse("market", STATE, 5, 5);
        full.refuse("least market", STATE, 5, 1);
        full.refuse("merge", STATE, 0, 1);
        full.refuse("merge", STATE, 1, 0);
        full.refuse("dearer", NOT_TOLD, 0, 3, 7);
        full.refuse("harm", STATE, 4, 0, 2);
        full.refuse("soldOff", STATE, 0, 1, 5, 9);
        full.refuse("twice", STATE, 0, 1, 2, 5, 2);
        full.refuse("twice", STATE, 2, 5, 4, 0, 0);
        full.refuse("wrong", STATE, 3, 1);
        full.refuseLetters(FULL, "s");
        full.refuseAlone(28, "test() of no test, and full", x -> x.test(), STATE);
    }

    /** An owner with three shops among those of room(), and as full as it takes to refuse a test for that alone. */
    private static ShopsAsOne threeOfOne() {
        ShopsAsOne x = room();
        x.merge(0, 3);
        x.shop(0, 9, 1, 1);
        for (int i = 1; i < 4; i++) {
            Streets.test(x, "o>" + i);
        }
        Streets.write(x, "s<1|".repeat(11) + "s<1234");
        return x;
    }

    /** Room for more of all; two shops side by side, and a COMER that is OUT. */
    private static ShopsAsOne room() {
        ShopsAsOne x = Streets.owners(0, 0, 4, 3);
        x.shop(0, 0, 0, 5);
        x.shop(1, 0, 1, 5);
        x.shop(2, 9, 0, 5);
        x.shop(3, 8, 2, 6);
        Streets.stay(x, 0, 10, 9);
        x.sort(6, 20, 1, 12, 3, 2);
        Streets.test(x, "d<2");
        Streets.write(x, "s<5|");
        return x;
    }

    private static void roomForMore() {
        RefusalsTest room = new RefusalsTest(RefusalsTest::room);
        room.refuseArguments(3, 0, 3);
        room.refuse("owner", 0, 0, 0);
        room.refuse("shop", 0, 3, 0, 0, 0);
        room.refuse("sort", 0, 0, 1, 0, 0, 3, 0);
        room.refuse("market", STATE, 2, 1);
        room.refuse("least market", 0, 1, 5);
        room.refuse("merge", 0, 0, 3);
        room.refuse("dearer", 0, 0, 1, 1);
        room.refuse("harm", 0, 0, 1, 0);
        room.refuse("soldOff", 0, 0, 1, 2, 0);
        room.refuse("twice", 0, 0, 1, 2, 3, 0);
        room.refuse("wrong", 0, 0, 0);
        room.refuseLetters(0, "");
        room.refuseAlone(28, "test() of a half one", x -> x.test(), STATE);
        room.refuseAlone(32, "restore() of no image", x -> x.restore(), STATE);
        RefusalsTest three = new RefusalsTest(RefusalsTest::threeOfOne);
        three.refuse("shop", FULL, 0, 0, 0, 0);
        three.refuse("harm", STATE, 0, 1, 0);
        three.refuseLetters(FULL, "|");
        three.refuseAlone(28, "test() of a fifth one", x -> x.test(), FULL);
    }

    /** It does not rest, and a shop came since the image. */
    private static ShopsAsOne restless() {
        ShopsAsOne x = Streets.restless(Streets.owners(0, 0, 2, 2), 0, 1);
        x.image();
        x.shop(0, 9, 0, 5);
        x.shop(0, 9, 0, 5);
        Streets.test(x, "d<2");
        return x;
    }

    private static void withoutRest() {
        RefusalsTest without = new RefusalsTest(RefusalsTest::restless);
        without.refuse("dearer", NOT_TOLD, 2, 3, 1);
        without.refuse("dearer", NOT_TOLD, 0, 1, 1);
        without.refuse("harm", NONE, 2, 3, 0);
        without.refuse("harm", STATE, 0, 1, 0);
        without.refuse("soldOff", NONE, 1, 2, 3, 9);
        without.refuse("soldOff", STATE, 1, 0, 3, 9);
        without.refuse("twice", NONE, 2, 0, 1, 3, 0);
        without.refuse("twice", STATE, 2, 3, 1, 0, 0);
        without.refuseAlone(14, "rest()", x -> x.rest(), STATE);
        without.refuseAlone(32, "restore(), a shop came", x -> x.restore(), STATE);
    }

    private static void nothingThere() {
        RefusalsTest nothing = new RefusalsTest(ShopsAsOne::new);
        nothing.refuseArguments(0, 1, 0);
        nothing.refuse("shop", UNKNOWN, 0, 0, 0, 0);
        nothing.refuse("sort", 0, 0, 1, 0, 0, NONE, 0);
        nothing.refuse("market", UNKNOWN, 0, 1);
        nothing.refuse("merge", UNKNOWN, 0, 1);
        nothing.refuse("dearer", NO_IS, 0, 1, 0);
        nothing.refuse("harm", UNKNOWN, 0, 1, 0);
        nothing.refuse("soldOff", UNKNOWN, 0, 1, 2, 0);
        nothing.refuse("twice", UNKNOWN, 0, 1, 2, 3, 0);
        nothing.refuse("wrong", UNKNOWN, 0, 0);
        nothing.refuseAlone(28, "test() of nothing", x -> x.test(), STATE);
        nothing.refuseAlone(32, "restore() of nothing", x -> x.restore(), STATE);
    }

    public static void main(String[] args) {
        allFull();
        roomForMore();
        withoutRest();
        nothingThere();
        end();
    }
}
