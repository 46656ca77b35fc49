import java.util.function.Supplier;

/** Edges of promises 25 to 30: tests told as texts. */
public final class EdgesOfTestsTest extends Edges {
    private static final String FACTOR = "!(sord", SIGN = "<=>", DIGIT = "0123456789", BEHIND = "|&";

    private static ShopsAsOne page(int length) {
        ShopsAsOne x = new ShopsAsOne();
        Streets.write(x, "~".repeat(length));
        return x;
    }

    private static void upToEight() {
        edge(25, "up to eight, the lowest byte first, until a byte that is 0: how many THE PAGE has");
        for (int i = 0; i <= 8; i++) {
            due(i + " letters", new ShopsAsOne().letters(Streets.packed("s<12|d>3".substring(0, i))), i);
        }
        ShopsAsOne x = new ShopsAsOne();
        x.letters(Streets.packed("s<12|d>3"));
        due("no more", x.letters(0), 8);
        x.letters(Streets.packed("4"));
        due("in their order", x.test(), 0);
        ShopsAsOne y = new ShopsAsOne();
        y.letters(0x0201L);
        due("1, then 2", y.digest(), digestOfPage(1, 2));
        y.letters(0x7eL);
        due("then 126", y.digest(), digestOfPage(1, 2, 126));
    }

    /** The digest of an object that has nothing but these letters on its page. */
    private static long digestOfPage(int... codes) {
        long h = 373;
        for (int code : codes) {
            h = 31 * h + code;
        }
        int[] counts = {0, 0, 0, 0, codes.length, 0, 0};
        for (int count : counts) {
            h = 31 * h + count;
        }
        return h;
    }

    private static void bytesThatAreTaken() {
        edge(25, "OUTSIDE: a byte above 126");
        for (int place = 0; place < 8; place++) {
            long ahead = (1L << 8 * place) / 255;
            int least = place + 1;
            due("1 at " + place, new ShopsAsOne().letters(ahead | 1L << 8 * place), least);
            due("126 at " + place, new ShopsAsOne().letters(ahead | 126L << 8 * place), least);
            for (long code : new long[] {127, 128, 200, 255}) {
                long w = ahead | code << 8 * place;
                refused(new ShopsAsOne(), code + " at " + place, x -> x.letters(w), OUTSIDE);
            }
        }
        refused(new ShopsAsOne(), "-1", x -> x.letters(-1L), OUTSIDE);
        refused(new ShopsAsOne(), "the most", x -> x.letters(Long.MAX_VALUE), OUTSIDE);
        refused(new ShopsAsOne(), "the least", x -> x.letters(Long.MIN_VALUE), OUTSIDE);
        due("eight times 126", new ShopsAsOne().letters(0x7e7e7e7e7e7e7e7eL), 8);
    }

    private static void bytesBehindNone() {
        edge(25, "OUTSIDE: one behind a 0 that is not 0");
        for (int none = 0; none < 8; none++) {
            for (int place = none + 1; place < 8; place++) {
                long ahead = (1L << 8 * none) / 255;
                for (long code : new long[] {1, 126, 128}) {
                    long w = ahead | code << 8 * place;
                    refused(new ShopsAsOne(), code + " at " + place + ", 0 at " + none, x -> x.letters(w), OUTSIDE);
                }
            }
        }
    }

    private static void fiftyLetters() {
        edge(25, "FULL: above 50");
        for (int more = 0; more <= 8; more++) {
            long w = Streets.packed("~".repeat(more));
            due("50 with " + more, page(50 - more).letters(w), 50);
            if (more > 0) {
                refused(page(51 - more), "51 with " + more, x -> x.letters(w), FULL);
                refused(page(50), "50, and " + more, x -> x.letters(w), FULL);
            }
        }
    }

    private static void emptyPages() {
        edge(26, "THE PAGE is empty: how many letters it had.");
        for (int length : new int[] {0, 1, 8, 49, 50}) {
            ShopsAsOne x = page(length);
            due("had", x.blank(), length);
            due("has", x.count(4), 0);
            due("had then", x.blank(), 0);
            due("room for all", Streets.write(x, "~".repeat(50)), 50);
        }
    }

    /** Behind these letters a test may go on with any of next, and with nothing else. */
    private static void goesOn(String start, String next) {
        for (char c = 1; c <= 126; c++) {
            ShopsAsOne x = new ShopsAsOne();
            Streets.write(x, start + c);
            boolean may = next.indexOf(c) >= 0;
            due("fault of " + start + " and letter " + (int) c, x.fault(), may ? start.length() + 1 : start.length());
        }
    }

    private static void whatTestsGoOnWith() {
        edge(27, "the first letter of THE PAGE that no TEST (of any length) has there, behind those ahead of it");
        for (String start : new String[] {"", "!", "!!", "(", "((", "(!", "!(", "s<1|", "d>1234&", "(s<1)|", "(o=2)&",
            "(s<1|", "((s<1)&", "s<1&!"}) {
            goesOn(start, FACTOR);
        }
        for (String start : new String[] {"s", "o", "r", "d", "!s", "(r", "s<1|d", "(s<1)&o"}) {
            goesOn(start, SIGN);
        }
        for (String start : new String[] {"s<", "o=", "r>", "d<", "(s=", "!d>", "s<1|s<"}) {
            goesOn(start, DIGIT);
        }
        for (String start : new String[] {"s<1", "s<00", "s<123", "!o=9", "(s<1)|d=9", "s<1234&r>000"}) {
            goesOn(start, DIGIT + BEHIND);
        }
        for (String start : new String[] {"s<1234", "r>0000", "(d=1)", "!(d=1)", "((d=1))", "s<1|d>9999", "(s<1)&(d>1)"}) {
            goesOn(start, BEHIND);
        }
        for (String start : new String[] {"(s<1", "((s<1)|d=123", "!(!d>2"}) {
            goesOn(start, DIGIT + BEHIND + ")");
        }
        for (String start : new String[] {"(s<1234", "((s<1)", "(!(d=1)", "(((d=1))", "(s<1&(d=2)"}) {
            goesOn(start, BEHIND + ")");
        }
    }

    private static void pagesWithoutFault() {
        edge(27, "how many letters it has, if there is none; (of any length)");
        for (String text : new String[] {"", "s", "s<1", "(".repeat(50), "!".repeat(50), "(!".repeat(25),
            "s<1|".repeat(12) + "(!"}) {
            ShopsAsOne x = new ShopsAsOne();
            Streets.write(x, text);
            refused(x, "fault of " + text, y -> y.fault(), text.length());
        }
        for (int place = 0; place < 50; place++) {
            ShopsAsOne x = new ShopsAsOne();
            Streets.write(x, "(".repeat(place) + "~" + "~".repeat(49 - place));
            due("the first of some", x.fault(), place);
        }
    }

    private static void fourTests() {
        edge(28, "TESTS (4 at most, numbered); its number; THE PAGE is empty then; FULL");
        ShopsAsOne x = new ShopsAsOne();
        for (int i = 0; i < 4; i++) {
            Streets.write(x, "s<" + i);
            due("test " + i, x.test(), i);
            due("letters", x.count(4), 0);
            due("tests", x.count(3), i + 1);
        }
        Streets.write(x, "s<4");
        refused(x, "a fifth", y -> y.test(), FULL);
        due("it stays", x.blank(), 3);
        due("tests", x.count(3), 4);
    }

    private static void pagesThatAreNone() {
        edge(28, "STATE: it is none");
        for (String text : new String[] {"", "s", "s<", "(", "(s<1", "s<1)", "s<12345", "s<1|", "s<1&", "!", "()", "s<1s<1",
            "(s<1)(s<1)", "((s<1)", "(s<1))", "s<1!", "s1", "<1", "~", "s<1~", "(".repeat(50), "s<1|".repeat(12) + "s<"}) {
            ShopsAsOne x = new ShopsAsOne();
            Streets.write(x, text);
            refused(x, "test of " + text, y -> y.test(), STATE);
            due("letters", x.count(4), text.length());
            due("tests", x.count(3), 0);
        }
    }

    private static void longestTests() {
        edge(28, "and one to four digits; FULL: above 50");
        for (String text : new String[] {"s<1", "o=22", "r>333", "d<4444", "s<0000", "!".repeat(47) + "s<1",
            "(".repeat(23) + "s<12" + ")".repeat(23), "s<1|".repeat(11) + "d>1234", "s<1&".repeat(12) + "!", "(s<1)"}) {
            boolean isOne = text.charAt(text.length() - 1) != '!';
            ShopsAsOne x = new ShopsAsOne();
            due("letters of " + text, Streets.write(x, text), text.length());
            due("test of " + text, x.test(), isOne ? 0 : STATE);
        }
    }

    /** A letter says this value of a and b, and no other. */
    private static void says(Supplier<ShopsAsOne> street, int a, int b, char letter, int value) {
        String[] texts = {letter + "=" + value, letter + "<" + value, letter + ">" + value, letter + "<" + (value + 1),
            letter + ">" + (value - 1), letter + "<9999", "!" + letter + "=" + value, letter + "=" + ("000" + value)};
        int[] due = {1, 0, 0, 1, 1, 1, 0, 1};
        for (int i = 0; i < texts.length; i++) {
            boolean isNone = value == 0 && i == 4 || texts[i].length() > 6;
            if (!isNone) {
                ShopsAsOne x = street.get();
                Streets.test(x, texts[i]);
                due(texts[i] + " of " + a + ", " + b, x.bars(0, a, b), due[i]);
                due(texts[i] + " of " + b + ", " + a, x.bars(0, b, a), due[i]);
            }
        }
    }

    /** TOLD owners, each with a shop at no cost at one place of its own, where so many are. */
    private static ShopsAsOne selling(int... many) {
        ShopsAsOne x = new ShopsAsOne();
        for (int i = 0; i < many.length; i++) {
            x.owner(2, 0);
            x.shop(i, i, 0, 1);
            if (many[i] > 0) {
                Streets.stay(x, i, Math.min(many[i], 50), 1);
            }
            if (many[i] > 50) {
                Streets.stay(x, i, many[i] - 50, 1);
            }
        }
        return x;
    }

    private static void shares() {
        edge(29, "s SHARE of both: hundredths that they have SOLD of all that is SOLD (rounded down; 0, if nothing is)");
        says(() -> selling(0, 0, 0), 0, 1, 's', 0);
        says(() -> selling(1, 0, 0), 0, 1, 's', 100);
        says(() -> selling(0, 0, 1), 0, 1, 's', 0);
        says(() -> selling(1, 0, 2), 0, 1, 's', 33);
        says(() -> selling(1, 1, 1), 0, 1, 's', 66);
        says(() -> selling(1, 0, 99), 0, 1, 's', 1);
        says(() -> selling(1, 0, 100), 0, 1, 's', 0);
        says(() -> selling(50, 49, 1), 0, 1, 's', 99);
        says(() -> selling(50, 50, 1), 0, 1, 's', 99);
        says(() -> Streets.owners(0, 0), 0, 1, 's', 0);
    }

    private static void sellersCounted() {
        edge(29, "o how many OWNERS sell something, a and b counted as one (by what is SOLD as it is now)");
        says(() -> selling(0, 0, 0), 0, 1, 'o', 0);
        says(() -> selling(0, 0, 1), 0, 1, 'o', 1);
        says(() -> selling(1, 0, 0), 0, 1, 'o', 1);
        says(() -> selling(1, 1, 0), 0, 1, 'o', 1);
        says(() -> selling(1, 0, 1), 0, 1, 'o', 2);
        says(() -> selling(1, 1, 1), 0, 1, 'o', 2);
        says(() -> selling(1, 1, 1, 1, 1, 1), 0, 5, 'o', 5);
        says(() -> selling(1, 1, 1, 1, 1, 0), 4, 5, 'o', 5);
        says(() -> selling(1, 1, 1, 1, 0, 0), 4, 5, 'o', 4);
    }

    private static void products() {
        edge(29, "r twice the product of both their own SHARES");
        says(() -> selling(0, 0), 0, 1, 'r', 0);
        says(() -> selling(1, 0), 0, 1, 'r', 0);
        says(() -> selling(1, 1), 0, 1, 'r', 5000);
        says(() -> selling(1, 1, 1), 0, 1, 'r', 2178);
        says(() -> selling(1, 1, 98), 0, 1, 'r', 2);
        says(() -> selling(1, 1, 99), 0, 1, 'r', 0);
        says(() -> selling(51, 50, 0), 0, 1, 'r', 4900);
    }

    private static ShopsAsOne apart(int place, int other, int kind) {
        ShopsAsOne x = Streets.owners(2, kind, 2);
        x.shop(0, place, 0, 0);
        x.shop(1, other, 0, 0);
        x.shop(2, 5, 0, 0);
        return x;
    }

    private static void distances() {
        edge(29, "d the least distance of an open SHOP of a and one of b (99, if there is none)");
        says(() -> apart(0, 9, 2), 0, 1, 'd', 9);
        says(() -> apart(9, 0, 2), 0, 1, 'd', 9);
        says(() -> apart(4, 4, 2), 0, 1, 'd', 0);
        says(() -> apart(4, 5, 2), 0, 1, 'd', 1);
        says(() -> apart(4, 5, 4), 0, 1, 'd', 99);
        says(() -> Streets.owners(0, 0), 0, 1, 'd', 99);
        says(() -> {
            ShopsAsOne x = apart(4, 9, 2);
            x.merge(2, 1);
            return x;
        }, 0, 1, 'd', 99);
        says(() -> {
            ShopsAsOne x = apart(4, 9, 2);
            x.merge(2, 1);
            return x;
        }, 0, 2, 'd', 1);
    }

    private static void truths() {
        edge(29, "one of them at least holds; all hold; FACTOR: \"!\" and a FACTOR; A TEST BARS them, if it holds");
        String[] holds = {"T", "!F", "!!T", "F|T", "T|F", "T|T", "T&T", "T|F&F", "F&F|T", "T&T|F", "F|F|F|T", "T&(F|T)",
            "!T|T", "!F&T", "!(T&F)", "!(F)&T", "(T)", "!(!(T))", "!(!T|F)&T", "(F|(T&(F|T)))", "T&!F", "T&!(T&F)|F",
            "(T)|(F)", "!(T)|!(F)", "F|!(T&F)&T", "!(F|F)&!(F&T)", "!!(T)&T"};
        String[] fails = {"F", "!T", "!!!T", "F|F", "F&F", "F&T", "T&F", "F&T|F", "T&F|F&T", "T&T&T&F", "(T|F)&F", "F&(F|T)",
            "!F&F", "!(F|T)", "!T&!F", "(F)|(F)", "!(T)&!(F)", "!(T)&T", "((F))", "!((T|F)&T)", "!(F)&F", "(T&F)|(F&T)"};
        for (String text : holds) {
            due(text, barred(text), 1);
        }
        for (String text : fails) {
            due(text, barred(text), 0);
        }
    }

    /** Whether two owners are barred by a test whose T holds and whose F does not. */
    private static int barred(String text) {
        ShopsAsOne x = Streets.owners(0, 0);
        return x.bars(Streets.test(x, text.replace("T", "s=0").replace("F", "s>0")), 0, 1);
    }

    private static void barsRefused() {
        edge(29, "UNKNOWN: test, a, b, or they are the same");
        ShopsAsOne x = Streets.owners(0, 0);
        refused(x, "no test", y -> y.bars(0, 0, 1), UNKNOWN);
        Streets.test(x, "s=0");
        refused(x, "it is only told", y -> y.bars(0, 0, 1), 1);
        refused(x, "it is only told", y -> y.bars(0, 1, 0), 1);
        for (int bad : beside(0, 0)) {
            refused(x, "test " + bad, y -> y.bars(bad, 0, 1), UNKNOWN);
        }
        for (int bad : beside(0, 1)) {
            refused(x, "a " + bad, y -> y.bars(0, bad, 1), UNKNOWN);
            refused(x, "b " + bad, y -> y.bars(0, 0, bad), UNKNOWN);
        }
        refused(x, "the same", y -> y.bars(0, 1, 1), UNKNOWN);
    }

    private static final String ALL = "!s<0", NOBODY = "s<0";

    /** LETS and BARRED of a test on that street, and how often wrong() was done. */
    private static void dueWrong(ShopsAsOne x, String test, int lets, int barred) {
        int number = Streets.test(x, test);
        int done = x.count(6);
        due("LETS by " + test, x.wrong(number, 0), lets);
        due("BARRED by " + test, x.wrong(number, 1), barred);
        due("done", x.count(6), done + 2);
    }

    private static void letAndBarred() {
        edge(30, "LETS: that a TEST does not bar, though HARM is above 0; BARRED: that it bars, though HARM is 0");
        ShopsAsOne x = Streets.rivals();
        x.owner(0, 0);
        dueWrong(x, ALL, 0, 2);
        dueWrong(x, NOBODY, 1, 0);
        dueWrong(x, "s=100&d=0", 0, 0);
        ShopsAsOne y = Streets.rivals();
        y.owner(0, 0);
        dueWrong(y, "d=99", 1, 2);
        dueWrong(new ShopsAsOne(), ALL, 0, 0);
        dueWrong(Streets.owners(0), ALL, 0, 0);
        dueWrong(Streets.owners(0, 0), ALL, 0, 1);
        dueWrong(Streets.owners(0, 1, 2, 3, 4, 0), ALL, 0, 15);
        dueWrong(Streets.owners(0, 1, 2, 3, 4, 0), NOBODY, 0, 0);
        ShopsAsOne z = Streets.oneDearer(1);
        due("1 dearer to one is harm", z.harm(0, 1, 0), 1);
        dueWrong(z, NOBODY, 1, 0);
        dueWrong(z, ALL, 0, 0);
    }

    private static void lesserFirst() {
        edge(30, "pairs a less than b");
        ShopsAsOne x = Streets.owners(0, 2);
        x.shop(1, 0, 0, 0);
        Streets.stay(x, 0, 10, 9);
        dueWrong(x, NOBODY, 1, 0);
        dueWrong(x, ALL, 0, 0);
        ShopsAsOne y = Streets.owners(2, 0);
        y.shop(0, 0, 0, 0);
        Streets.stay(y, 0, 10, 9);
        dueWrong(y, NOBODY, 0, 0);
        dueWrong(y, ALL, 0, 1);
    }

    private static void thatCanBeMerged() {
        edge(30, "pairs that can be MERGED, and rest BEFORE and BEHIND");
        ShopsAsOne x = Streets.rivals();
        x.shop(0, 9, 0, 0);
        dueWrong(x, NOBODY, 1, 0);
        x.shop(0, 9, 0, 0);
        dueWrong(x, NOBODY, 0, 0);
        dueWrong(x, ALL, 0, 0);
        ShopsAsOne y = Streets.restless(Streets.owners(0, 2, 0), 1, 2);
        due("not BEHIND", y.harm(0, 1, 0), NONE);
        due("no harm", y.harm(0, 2, 0), 0);
        due("harm", y.harm(1, 2, 0), 20);
        dueWrong(y, NOBODY, 1, 0);
        dueWrong(y, ALL, 0, 1);
        ShopsAsOne z = Streets.restless(Streets.owners(0, 0, 2, 2), 0, 1);
        dueWrong(z, NOBODY, 0, 0);
        dueWrong(z, ALL, 0, 0);
    }

    private static void asItIsNow() {
        edge(30, "of two OWNERS a, b, as it is now");
        ShopsAsOne x = Streets.owners(0, 0);
        x.shop(0, 0, 0, 9);
        x.shop(1, 0, 0, 9);
        Streets.stay(x, 0, 10, 8);
        due("HARM, as it is 0 BEFORE", x.harm(0, 1, 0), 80);
        dueWrong(x, "s=0", 0, 0);
        dueWrong(x, "s=100", 1, 0);
        x.rest();
        dueWrong(x, "s=100", 0, 0);
    }

    private static void sixTimes() {
        edge(30, "STATE: it was done 6 times ever (it counts on, whatever is read or restored)");
        ShopsAsOne x = Streets.rivals();
        x.image();
        Streets.test(x, ALL);
        for (int i = 0; i < 6; i++) {
            refused(x, "no test", y -> y.wrong(3, 0), UNKNOWN);
            refused(x, "what 2", y -> y.wrong(0, 2), OUTSIDE);
            due("done", x.count(6), i);
            due("BARRED", x.wrong(i / 2, i % 2), 0);
            if (i % 2 == 1) {
                due("read", Streets.test(x, ALL), i / 2 + 1);
            }
            due("restored", x.restore(), 2);
            due("done", x.count(6), i + 1);
        }
        for (int what = 0; what <= 1; what++) {
            int asked = what;
            refused(x, "six times", y -> y.wrong(0, asked), STATE);
        }
        x.image();
        x.restore();
        x.rest();
        refused(x, "six times", y -> y.wrong(0, 0), STATE);
        ShopsAsOne z = Streets.twenty();
        Streets.test(z, ALL);
        for (int i = 0; i < 6; i++) {
            due("done, though it does not rest", z.wrong(0, i % 2), 0);
        }
        refused(z, "six times", y -> y.wrong(0, 0), STATE);
    }

    private static void wrongRefused() {
        edge(30, "UNKNOWN; OUTSIDE");
        ShopsAsOne x = Streets.rivals();
        refused(x, "no test", y -> y.wrong(0, 0), UNKNOWN);
        Streets.test(x, ALL);
        for (int bad : beside(0, 0)) {
            refused(x, "test " + bad, y -> y.wrong(bad, 0), UNKNOWN);
        }
        for (int bad : beside(0, 1)) {
            refused(x, "what " + bad, y -> y.wrong(0, bad), OUTSIDE);
        }
        due("done", x.count(6), 0);
    }

    public static void main(String[] args) {
        upToEight();
        bytesThatAreTaken();
        bytesBehindNone();
        fiftyLetters();
        emptyPages();
        whatTestsGoOnWith();
        pagesWithoutFault();
        fourTests();
        pagesThatAreNone();
        longestTests();
        shares();
        sellersCounted();
        products();
        distances();
        truths();
        barsRefused();
        letAndBarred();
        lesserFirst();
        thatCanBeMerged();
        asItIsNow();
        sixTimes();
        wrongRefused();
        end();
    }
}
