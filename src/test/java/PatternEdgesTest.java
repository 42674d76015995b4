import java.util.NoSuchElementException;

/**
 * The boundary cases of "Patterns" and of promises 22 to 27, sentence by sentence: each kind at the ends of the
 * subject, over nothing and over 60 signs, with an empty and with a full text or value, and the limits of a match.
 */
public final class PatternEdgesTest {
    private static final Check CHECK = new Check("PatternEdgesTest");
    private static final String SIXTY = "abcdefghij".repeat(6);
    private static final String HIGH = "\uD83D\uDE00";

    public static void main(String[] args) {
        literals();
        singleSigns();
        spans();
        breaks();
        numbersOfSigns();
        cursors();
        restAndAny();
        repeated();
        repeatedTakesASign();
        balanced();
        alternativesAndRows();
        fences();
        atOnce();
        atOnceAlone();
        atTheEnd();
        nothingAtTheEnd();
        cursorsAssigned();
        valuesThen();
        whereItBegins();
        begun();
        begunAtMost();
        dearMatchesAgain();
        waysUpTo200();
        begunByAllWays();
        waysOfNothing();
        firstIsThatOfAllWays();
        lastMatch();
        CHECK.finish();
    }

    private static void due(SnowbolFold x, int pattern, String signs, String want) {
        CHECK.due("ways of " + pattern + " over " + signs, Check.ways(x, pattern, signs), want);
    }

    private static boolean matches(SnowbolFold x, int pattern, String signs) {
        Check.type(x, signs);
        return x.match(pattern);
    }

    /** The number of an anchored match's end over some signs, or -1. */
    private static int end(SnowbolFold x, int pattern, String signs) {
        return matches(x, pattern, signs) ? x.to() : -1;
    }

    /** 'l' the text a. */
    private static void literals() {
        SnowbolFold x = new SnowbolFold();
        int empty = x.pattern('l', Check.text(x, ""), 0);
        due(x, empty, "", "0-0");
        due(x, empty, "ab", "0-0 1-1 2-2");
        int two = x.pattern('l', Check.text(x, "ab"), 0);
        due(x, two, "ab", "0-2");
        due(x, two, "a", "");
        due(x, two, "xa", "");
        due(x, two, "aab", "1-3");
        due(x, two, "", "");
        int full = x.pattern('l', Check.text(x, "klmnopqrstklmnopqrst"), 0);
        due(x, full, "klmnopqrstklmnopqrst", "0-20");
        due(x, full, "klmnopqrstklmnopqrs", "");
        due(x, full, "a".repeat(40) + "klmnopqrstklmnopqrst", "40-60");
        int high = x.pattern('l', Check.text(x, HIGH), 0);
        due(x, high, HIGH + "a" + HIGH, "0-1 2-3");
        due(x, high, "\uD83D\uDE01", "");
    }

    /** 'n' one sign of the text a; 'o' one sign that is not in it. */
    private static void singleSigns() {
        SnowbolFold x = new SnowbolFold();
        int text = Check.text(x, "a" + HIGH + "\uD83D\uDE4F");
        int of = x.pattern('n', text, 0);
        int not = x.pattern('o', text, 0);
        due(x, of, "", "");
        due(x, not, "", "");
        due(x, of, "ab", "0-1");
        due(x, not, "ab", "1-2");
        due(x, of, "b" + HIGH + "\uD83D\uDE4F", "1-2 2-3");
        due(x, not, "\uD83D\uDE01" + HIGH, "0-1");
        int empty = Check.text(x, "");
        int ofNothing = x.pattern('n', empty, 0);
        int notOfNothing = x.pattern('o', empty, 0);
        due(x, ofNothing, "a", "");
        due(x, notOfNothing, "a", "0-1");
        due(x, notOfNothing, "", "");
        int full = Check.text(x, "01234567890123456789");
        due(x, x.pattern('n', full, 0), "9/0", "0-1 2-3");
        due(x, x.pattern('o', full, 0), "9/0", "1-2");
        int behindFull = Check.text(x, "b");
        due(x, x.pattern('n', full, 0), "9b", "0-1");
        due(x, x.pattern('n', behindFull, 0), "9b", "1-2");
        due(x, x.pattern('o', behindFull, 0), "9b", "0-1");
    }

    /** 's' the longest row of signs of the text a from here on, one at least, that alone. */
    private static void spans() {
        SnowbolFold x = new SnowbolFold();
        int text = Check.text(x, "ab");
        int span = x.pattern('s', text, 0);
        int one = x.pattern('n', text, 0);
        int more = x.pattern('&', span, one);
        x.anchor(true);
        due(x, span, "", "");
        due(x, span, "xa", "");
        due(x, span, "ax", "0-1");
        due(x, span, "abba", "0-4");
        due(x, span, "ab".repeat(30), "0-60");
        due(x, more, "aba", "");
        due(x, x.pattern('s', Check.text(x, ""), 0), "a", "");
    }

    /** 'k' all up to the next sign of the text a, perhaps nothing, that not included, none of it being there fails. */
    private static void breaks() {
        SnowbolFold x = new SnowbolFold();
        int text = Check.text(x, ".,");
        int upTo = x.pattern('k', text, 0);
        int one = x.pattern('n', text, 0);
        int past = x.pattern('&', upTo, one);
        int pastTwo = x.pattern('&', past, past);
        x.anchor(true);
        due(x, upTo, "", "");
        due(x, upTo, "ab", "");
        due(x, upTo, ".", "0-0");
        due(x, upTo, "ab.", "0-2");
        due(x, upTo, "ab,c.", "0-2");
        due(x, past, "ab,c.", "0-3");
        due(x, pastTwo, "ab,c.", "0-5");
        due(x, pastTwo, "ab,c", "");
        due(x, upTo, "a".repeat(59) + ".", "0-59");
        due(x, upTo, "a".repeat(60), "");
        due(x, x.pattern('k', Check.text(x, ""), 0), "a", "");
    }

    /** '#' a signs. */
    private static void numbersOfSigns() {
        SnowbolFold x = new SnowbolFold();
        int none = x.pattern('#', 0, 0);
        int three = x.pattern('#', 3, 0);
        int sixty = x.pattern('#', 60, 0);
        int last = x.pattern('#', 59, 0);
        due(x, none, "", "0-0");
        due(x, none, "a", "0-0 1-1");
        due(x, three, "ab", "");
        due(x, three, "a" + HIGH + "c", "0-3");
        due(x, three, "abcd", "0-3 1-4");
        due(x, sixty, SIXTY, "0-60");
        due(x, sixty, SIXTY.substring(1), "");
        due(x, last, SIXTY, "0-59 1-60");
    }

    /** 't' to the cursor a, 'r' to that a ahead of the end, not back; 'p' here, if ..., 'q' if ... */
    private static void cursors() {
        SnowbolFold x = new SnowbolFold();
        int first = 0;
        for (int number : new int[] {0, 2, 60}) {
            for (char kind : "trpq".toCharArray()) {
                x.pattern(kind, number, 0);
            }
        }
        due(x, first, "", "0-0");
        due(x, first + 1, "", "0-0");
        due(x, first + 2, "", "0-0");
        due(x, first + 3, "", "0-0");
        due(x, first, "ab", "0-0");
        due(x, first + 1, "ab", "0-2 1-2 2-2");
        due(x, first + 2, "ab", "0-0");
        due(x, first + 3, "ab", "2-2");
        due(x, 4, "a", "");
        due(x, 4, "ab", "0-2 1-2 2-2");
        due(x, 4, "abc", "0-2 1-2 2-2");
        due(x, 5, "a", "");
        due(x, 5, "ab", "0-0");
        due(x, 5, "abc", "0-1 1-1");
        due(x, 6, "a", "");
        due(x, 6, "ab", "2-2");
        due(x, 7, "a", "");
        due(x, 7, "ab", "0-0");
        due(x, 7, "abc", "1-1");
        for (int pattern = 8; pattern < 12; pattern++) {
            due(x, pattern, SIXTY.substring(1), "");
        }
        x.anchor(true);
        due(x, 8, SIXTY, "0-60");
        due(x, 9, SIXTY, "0-0");
        due(x, 10, SIXTY, "");
        due(x, 11, SIXTY, "0-0");
        x.anchor(false);
        due(x, 10, SIXTY, "60-60");
    }

    /** 'm' all the rest; '*' any signs, none first, then one more each time; 'i' fails. */
    private static void restAndAny() {
        SnowbolFold x = new SnowbolFold();
        int rest = x.pattern('m', 0, 0);
        int any = x.pattern('*', 0, 0);
        int never = x.pattern('i', 0, 0);
        due(x, rest, "", "0-0");
        due(x, rest, "abc", "0-3 1-3 2-3 3-3");
        due(x, any, "", "0-0");
        due(x, any, "a", "0-0 0-1 1-1");
        due(x, never, "", "");
        due(x, never, "a", "");
        x.anchor(true);
        due(x, rest, SIXTY, "0-60");
        CHECK.due("any of 60", x.ways(any), 61);
        CHECK.due("none first", x.way(any, 0), 0);
        CHECK.due("all last", x.way(any, 60), 60);
        CHECK.dueThrow("no more", NoSuchElementException.class, () -> x.way(any, 61));
        due(x, x.pattern('&', rest, rest), "ab", "0-2");
        due(x, x.pattern('&', any, rest), "ab", "0-2 0-2 0-2");
    }

    /** 'g' the pattern a none times first, then once more each time. */
    private static void repeated() {
        SnowbolFold x = new SnowbolFold();
        int one = x.pattern('#', 1, 0);
        int each = x.pattern('g', one, 0);
        int never = x.pattern('i', 0, 0);
        int none = x.pattern('g', never, 0);
        int end = x.pattern('q', 0, 0);
        x.anchor(true);
        due(x, each, "", "0-0");
        due(x, each, "abc", "0-0 0-1 0-2 0-3");
        due(x, none, "abc", "0-0");
        CHECK.due("60 times", end(x, x.pattern('&', each, end), SIXTY), 60);
        // the row, the repeated, the end once more each time, and what is repeated 60 times
        CHECK.due("begun 60 times", x.begun(), 2 + 61 + 60);
        int two = x.pattern('#', 2, 0);
        int either = x.pattern('|', two, one);
        int eithers = x.pattern('g', either, 0);
        due(x, eithers, "ab", "0-0 0-2 0-1 0-2");
        due(x, x.pattern('g', eithers, 0), "a", "0-0 0-1");
        due(x, x.pattern('&', each, each), "ab", "0-0 0-1 0-2 0-1 0-2 0-2");
    }

    /** ... each time it takes a sign at least, a way of it that takes none being gone back over. */
    private static void repeatedTakesASign() {
        SnowbolFold x = new SnowbolFold();
        int none = x.pattern('#', 0, 0);
        int one = x.pattern('#', 1, 0);
        int noneFirst = x.pattern('|', none, one);
        int noneLast = x.pattern('|', one, none);
        int empty = x.pattern('l', Check.text(x, ""), 0);
        x.anchor(true);
        due(x, x.pattern('g', none, 0), "ab", "0-0");
        due(x, x.pattern('g', empty, 0), "ab", "0-0");
        due(x, x.pattern('g', noneFirst, 0), "ab", "0-0 0-1 0-2");
        due(x, x.pattern('g', noneLast, 0), "ab", "0-0 0-1 0-2");
        int rest = x.pattern('m', 0, 0);
        due(x, x.pattern('g', rest, 0), "ab", "0-0 0-2");
        due(x, x.pattern('g', rest, 0), "", "0-0");
        int marked = x.pattern('$', none, 2);
        Check.give(x, 'c', "before");
        due(x, x.pattern('g', marked, 0), "ab", "0-0");
        CHECK.due("assigned ahead of being gone back over", Check.value(x, 'c'), "");
    }

    /** 'x' signs that are balanced, the fewest first, one at least, then the next more. */
    private static void balanced() {
        SnowbolFold x = new SnowbolFold();
        int balanced = x.pattern('x', 0, 0);
        due(x, balanced, "", "");
        due(x, balanced, "a", "0-1");
        due(x, balanced, "(", "");
        due(x, balanced, ")", "");
        due(x, balanced, "()", "0-2");
        due(x, balanced, ")()", "1-3");
        due(x, balanced, "())", "0-2");
        due(x, balanced, "a)b(", "0-1 2-3");
        due(x, balanced, "[", "0-1");
        due(x, balanced, HIGH + "()", "0-1 0-3 1-3");
        x.anchor(true);
        due(x, balanced, "(()(a))b", "0-7 0-8");
        due(x, balanced, "(".repeat(30) + ")".repeat(30), "0-60");
        due(x, balanced, "(".repeat(31) + ")".repeat(29), "");
        Check.type(x, SIXTY);
        CHECK.due("one at least", x.way(balanced, 0), 1);
        CHECK.due("each more", x.ways(balanced), 60);
    }

    /** '|' the pattern a, or else b; '&' a, then b. */
    private static void alternativesAndRows() {
        SnowbolFold x = new SnowbolFold();
        int one = x.pattern('#', 1, 0);
        int never = x.pattern('i', 0, 0);
        int none = x.pattern('#', 0, 0);
        x.anchor(true);
        due(x, x.pattern('|', one, one), "a", "0-1 0-1");
        due(x, x.pattern('|', never, one), "a", "0-1");
        due(x, x.pattern('|', one, never), "a", "0-1");
        due(x, x.pattern('|', never, never), "a", "");
        due(x, x.pattern('|', one, none), "", "0-0");
        due(x, x.pattern('&', none, none), "", "0-0");
        due(x, x.pattern('&', one, one), "a", "");
        due(x, x.pattern('&', one, never), "ab", "");
        due(x, x.pattern('&', never, one), "ab", "");
        deepRows();
    }

    /** Rows, and assignments, each one made of the one before, as deep as 50 patterns go. */
    private static void deepRows() {
        SnowbolFold x = new SnowbolFold();
        int deep = x.pattern('#', 1, 0);
        int none = x.pattern('#', 0, 0);
        for (int number = 2; number < 50; number++) {
            deep = x.pattern('&', deep, none);
        }
        due(x, deep, "ab", "0-1 1-2");
        SnowbolFold y = new SnowbolFold();
        deep = y.pattern('#', 1, 0);
        for (int number = 1; number < 50; number++) {
            deep = y.pattern(number % 2 == 0 ? '$' : '.', deep, number % 26);
        }
        Check.type(y, "ab");
        CHECK.due("match", y.match(deep), true);
        CHECK.due("begun", y.begun(), 50);
        for (int variable = 0; variable < 26; variable++) {
            CHECK.due("each has what was taken", y.size(variable), 1);
        }
    }

    /** 'f' nothing, but gone back over it the match fails as a whole; 'z' the match fails as a whole. */
    private static void fences() {
        SnowbolFold x = new SnowbolFold();
        int fence = x.pattern('f', 0, 0);
        int broken = x.pattern('z', 0, 0);
        int one = x.pattern('#', 1, 0);
        int end = x.pattern('q', 0, 0);
        CHECK.due("a fence over nothing", end(x, fence, ""), 0);
        CHECK.due("broken off over nothing", end(x, broken, ""), -1);
        CHECK.due("begun by that", x.begun(), 1);
        int fenced = x.pattern('&', one, x.pattern('&', fence, end));
        CHECK.due("at the first cursor alone", end(x, fenced, "ab"), -1);
        CHECK.due("begun up to the fence", x.begun(), 5);
        CHECK.due("to the end at once", end(x, fenced, "a"), 1);
        int fenceBehind = x.pattern('&', end, fence);
        CHECK.due("a fence not come to does not matter", end(x, fenceBehind, "ab"), 2);
        int brokenFirst = x.pattern('|', broken, one);
        int brokenLast = x.pattern('|', one, broken);
        due(x, brokenFirst, "ab", "");
        due(x, brokenLast, "ab", "0-1");
        CHECK.due("the ways ahead of it count", x.ways(brokenLast), 1);
        due(x, x.pattern('&', fence, fence), "ab", "0-0");
        int repeated = x.pattern('g', x.pattern('&', one, fence), 0);
        due(x, repeated, "ab", "0-0 0-1 0-2");
        due(x, x.pattern('&', repeated, end), "ab", "0-2");
        due(x, x.pattern('|', x.pattern('&', fence, broken), one), "a", "");
    }

    /** '$' the pattern a, and what it took becomes the value of the variable b at once. */
    private static void atOnce() {
        SnowbolFold x = new SnowbolFold();
        int none = x.pattern('#', 0, 0);
        int all = x.pattern('m', 0, 0);
        int any = x.pattern('*', 0, 0);
        int never = x.pattern('i', 0, 0);
        Check.give(x, 'z', "before");
        CHECK.due("nothing taken", matches(x, x.pattern('$', none, 25), "ab"), true);
        CHECK.due("nothing is the value", Check.value(x, 'z'), "");
        CHECK.due("60 taken", matches(x, x.pattern('$', all, 25), SIXTY), true);
        CHECK.due("60 are the value", Check.value(x, 'z'), SIXTY);
        CHECK.due("failing", matches(x, x.pattern('$', never, 25), "a"), false);
        CHECK.due("as it was, nothing being taken", Check.value(x, 'z'), SIXTY);
        int each = x.pattern('&', x.pattern('$', any, 0), never);
        x.anchor(true);
        CHECK.due("failing behind it", matches(x, each, "ab"), false);
        CHECK.due("that of the last way", Check.value(x, 'a'), "ab");
        int twice = x.pattern('$', x.pattern('$', all, 3), 3);
        int both = x.pattern('&', x.pattern('$', x.pattern('#', 1, 0), 3), x.pattern('$', none, 4));
        matches(x, twice, "xy");
        CHECK.due("over each other", Check.value(x, 'd'), "xy");
        Check.give(x, 'e', "before");
        matches(x, both, "xy");
        CHECK.due("one behind the other", Check.value(x, 'd') + Check.value(x, 'e'), "x");
        CHECK.due("what is typed stays", Check.typed(x), "xy");
    }

    /** ... at once, and not once more as the match is over. */
    private static void atOnceAlone() {
        SnowbolFold x = new SnowbolFold();
        int one = x.pattern('#', 1, 0);
        int atOnce = x.pattern('$', one, 0);
        int here = x.pattern('@', 0, 0);
        matches(x, x.pattern('&', atOnce, here), "xy");
        CHECK.due("the cursor behind it", Check.value(x, 'a'), "1");
        matches(x, x.pattern('&', here, atOnce), "xy");
        CHECK.due("the sign behind the cursor", Check.value(x, 'a'), "x");
        int late = x.pattern('.', one, 0);
        matches(x, x.pattern('&', late, atOnce), "xy");
        CHECK.due("at the end behind at once", Check.value(x, 'a'), "x");
        matches(x, x.pattern('&', late, here), "xy");
        CHECK.due("at the end behind the cursor", Check.value(x, 'a'), "x");
    }

    /** '.' ... as the match is over and succeeds, in the order in which they were taken, inner ones first. */
    private static void atTheEnd() {
        SnowbolFold x = new SnowbolFold();
        int none = x.pattern('#', 0, 0);
        int one = x.pattern('#', 1, 0);
        int all = x.pattern('m', 0, 0);
        int never = x.pattern('i', 0, 0);
        x.anchor(true);
        Check.give(x, 'z', "before");
        matches(x, x.pattern('.', none, 25), "ab");
        CHECK.due("nothing is the value", Check.value(x, 'z'), "");
        matches(x, x.pattern('.', all, 25), SIXTY);
        CHECK.due("60 are the value", Check.value(x, 'z'), SIXTY);
        int inner = x.pattern('.', one, 0);
        matches(x, x.pattern('.', x.pattern('&', inner, one), 0), "ab");
        CHECK.due("inner ones first", Check.value(x, 'a'), "ab");
        matches(x, x.pattern('&', x.pattern('.', all, 0), x.pattern('.', none, 0)), "ab");
        CHECK.due("in the order in which they were taken", Check.value(x, 'a'), "");
        int kept = x.pattern('&', inner, x.pattern('|', never, one));
        matches(x, kept, "xy");
        CHECK.due("what was taken ahead of what is gone back over", Check.value(x, 'a'), "x");
        int lost = x.pattern('|', x.pattern('&', x.pattern('.', one, 1), never), one);
        matches(x, lost, "xy");
        CHECK.due("what is gone back over is not taken", Check.value(x, 'b'), "");
        int keptAndLost = x.pattern('&', inner, lost);
        matches(x, keptAndLost, "vwx");
        CHECK.due("both", Check.value(x, 'a') + Check.value(x, 'b'), "v");
        int repeated = x.pattern('g', x.pattern('.', one, 2), 0);
        matches(x, x.pattern('&', repeated, x.pattern('q', 0, 0)), "abc");
        CHECK.due("the last one of the repeated", Check.value(x, 'c'), "c");
        int seen = x.pattern('&', x.pattern('.', one, 3), x.pattern('v', 3, 0));
        Check.give(x, 'd', "y");
        CHECK.due("not at once", matches(x, seen, "xy"), true);
        CHECK.due("at the end", Check.value(x, 'd'), "x");
        Check.give(x, 'd', "x");
        CHECK.due("ways assign nothing", x.ways(seen), 0);
    }

    /** ... as the match is over and succeeds: one that fails, however it does, assigns nothing so. */
    private static void nothingAtTheEnd() {
        SnowbolFold x = new SnowbolFold();
        int taken = x.pattern('.', x.pattern('m', 0, 0), 0);
        int none = x.pattern('.', x.pattern('#', 0, 0), 0);
        int never = x.pattern('i', 0, 0);
        int fence = x.pattern('f', 0, 0);
        int[] behind = {never, x.pattern('z', 0, 0), x.pattern('&', fence, never)};
        x.term('v', 0, 0);
        for (int last : behind) {
            for (int first : new int[] {taken, none}) {
                int fails = x.pattern('&', first, last);
                Check.give(x, 'a', "before");
                for (boolean is : new boolean[] {false, true, false}) {
                    x.anchor(is);
                    CHECK.due("a match that fails", matches(x, fails, "xy"), false);
                    CHECK.due("nothing is assigned", Check.value(x, 'a'), "before");
                    int scan = x.scan(1, fails, 0, -4, -4);
                    Check.give(x, 'b', "xy");
                    x.run(scan, 1);
                    CHECK.due("a scan that fails", x.failed(scan), 1);
                    CHECK.due("nothing is assigned by it", Check.value(x, 'a') + Check.value(x, 'b'), "beforexy");
                }
            }
        }
    }

    /** '@' nothing, the cursor becomes the value of the variable a at once. */
    private static void cursorsAssigned() {
        SnowbolFold x = new SnowbolFold();
        int here = x.pattern('@', 25, 0);
        int there = x.pattern('&', x.pattern('m', 0, 0), here);
        CHECK.due("nothing is taken", end(x, here, "ab"), 0);
        CHECK.due("0", Check.value(x, 'z'), "0");
        for (int count : new int[] {1, 9, 10, 59, 60}) {
            matches(x, there, SIXTY.substring(0, count));
            CHECK.due("the end", Check.value(x, 'z'), "" + count);
        }
        matches(x, there, "");
        CHECK.due("the end of nothing", Check.value(x, 'z'), "0");
        matches(x, x.pattern('&', here, x.pattern('i', 0, 0)), "abc");
        CHECK.due("at once, the last cursor", Check.value(x, 'z'), "3");
        int same = x.pattern('&', here, x.pattern('v', 25, 0));
        CHECK.due("seen at once", matches(x, same, "x1y"), true);
        CHECK.due("from", x.from(), 1);
    }

    /** 'v' the value that the variable a has then. */
    private static void valuesThen() {
        SnowbolFold x = new SnowbolFold();
        int value = x.pattern('v', 25, 0);
        due(x, value, "", "0-0");
        due(x, value, "a", "0-0 1-1");
        Check.give(x, 'z', SIXTY);
        due(x, value, SIXTY, "0-60");
        due(x, value, SIXTY.substring(1), "");
        due(x, value, "", "");
        int first = x.pattern('$', x.pattern('#', 1, 0), 25);
        int twice = x.pattern('&', first, x.pattern('&', value, value));
        due(x, twice, "abbbc", "1-4");
    }

    /** By an anchored match it begins at the cursor 0; otherwise there first, then at 1, ... up to the end. */
    private static void whereItBegins() {
        SnowbolFold x = new SnowbolFold();
        int last = x.pattern('q', 0, 0);
        int lastOne = x.pattern('q', 1, 0);
        CHECK.due("at the end", matches(x, last, SIXTY), true);
        CHECK.due("from", x.from(), 60);
        CHECK.due("to", x.to(), 60);
        CHECK.due("begun at each cursor", x.begun(), 61);
        CHECK.due("way", x.way(last, 0), 6060);
        x.anchor(true);
        CHECK.due("anchored", matches(x, last, SIXTY), false);
        CHECK.due("begun at one", x.begun(), 1);
        CHECK.due("anchored, ahead of one", matches(x, lastOne, "a"), true);
        CHECK.due("anchored over nothing", matches(x, last, ""), true);
        x.anchor(false);
        CHECK.due("over nothing", matches(x, last, ""), true);
        CHECK.due("ahead of one, over nothing", matches(x, lastOne, ""), false);
        CHECK.due("begun over nothing", x.begun(), 1);
    }

    /** A pattern is begun whenever it is come to, not when it is gone back over; ... */
    private static void begun() {
        SnowbolFold x = new SnowbolFold();
        int any = x.pattern('*', 0, 0);
        int never = x.pattern('i', 0, 0);
        int none = x.pattern('#', 0, 0);
        int one = x.pattern('#', 1, 0);
        int balanced = x.pattern('x', 0, 0);
        x.anchor(true);
        CHECK.due("fails", matches(x, x.pattern('&', any, never), "ab"), false);
        CHECK.due("any signs are begun once", x.begun(), 2 + 3);
        CHECK.due("fails", matches(x, x.pattern('&', balanced, never), "ab"), false);
        CHECK.due("balanced ones are begun once", x.begun(), 2 + 2);
        CHECK.due("fails", matches(x, x.pattern('|', never, never), "ab"), false);
        CHECK.due("alternatives are begun once", x.begun(), 1 + 2);
        CHECK.due("fails", matches(x, x.pattern('&', never, one), "ab"), false);
        CHECK.due("what is not come to is not begun", x.begun(), 2);
        CHECK.due("matches", matches(x, x.pattern('g', one, 0), "ab"), true);
        CHECK.due("a repeated one, none times", x.begun(), 1);
        CHECK.due("fails", matches(x, x.pattern('&', x.pattern('g', one, 0), never), "ab"), false);
        // the row, the repeated, what fails at 3 cursors, what is repeated at 3 cursors, the last time in vain
        CHECK.due("a repeated one, each time", x.begun(), 2 + 3 + 3);
        CHECK.due("fails", matches(x, x.pattern('&', x.pattern('g', none, 0), never), "ab"), false);
        CHECK.due("a repeated one that takes none", x.begun(), 2 + 1 + 1);
        int named = x.pattern('.', x.pattern('$', one, 0), 1);
        CHECK.due("matches", matches(x, named, "ab"), true);
        CHECK.due("each around another", x.begun(), 3);
    }

    /** A pattern that begins so many, as a tree of alternatives that fail; the subject is empty. */
    private static int beginning(SnowbolFold x, int count) {
        int one = x.pattern('i', 0, 0);
        int[] trees = new int[11];
        trees[0] = one;
        int all = one;
        int left = count - 1;
        for (int level = 1; level < 11; level++) {
            // a tree of this level begins 2 * 2^level - 1
            trees[level] = x.pattern('|', trees[level - 1], trees[level - 1]);
        }
        for (int level = 10; level >= 0; level--) {
            for (int size = 2 << level; left >= size; left -= size) {
                all = x.pattern('|', all, trees[level]);
            }
        }
        return left == 0 ? all : x.pattern('.', all, 0);
    }

    /** If more than 3000 are begun in a match, it is error 3. */
    private static void begunAtMost() {
        for (int count : new int[] {2999, 3000, 3001, 3002}) {
            SnowbolFold x = new SnowbolFold();
            int tree = beginning(x, count);
            int full = x.term('v', 0, 0);
            x.scan(0, tree, full, -4, -4);
            boolean many = count > 3000;
            String what = " of " + count;
            x.pattern('m', 0, 0);
            x.match(tree + 1);
            CHECK.due("scan" + what, x.run(0, 1), many ? 'x' : 'd');
            CHECK.due("failed" + what, x.failed(0), many ? 0 : 1);
            CHECK.due("done" + what, x.done(0), 1);
            if (many) {
                CHECK.due("error" + what, x.error(), 3);
                CHECK.dueThrow("match" + what, ArithmeticException.class, () -> x.match(tree));
                CHECK.dueThrow("ways" + what, ArithmeticException.class, () -> x.ways(tree));
                CHECK.dueThrow("way" + what, ArithmeticException.class, () -> x.way(tree, 0));
                CHECK.due("the last match" + what, x.begun(), 1);
            } else {
                CHECK.dueThrow("error" + what, NoSuchElementException.class, x::error);
                CHECK.due("match" + what, x.match(tree), false);
                CHECK.due("begun" + what, x.begun(), count);
                CHECK.due("ways" + what, x.ways(tree), 0);
                CHECK.dueThrow("way" + what, NoSuchElementException.class, () -> x.way(tree, 0));
            }
            // an alternative of the tree and nothing begins two more
            int none = x.pattern('#', 0, 0);
            int late = x.pattern('|', tree, none);
            if (count > 2998) {
                CHECK.dueThrow("two more" + what, ArithmeticException.class, () -> x.match(late));
            }
        }
        SnowbolFold x = new SnowbolFold();
        int tree = beginning(x, 2998);
        int late = x.pattern('|', tree, x.pattern('#', 0, 0));
        CHECK.due("a match as the 3000th is begun", x.match(late), true);
        CHECK.due("begun", x.begun(), 3000);
        int later = x.pattern('.', late, 0);
        CHECK.dueThrow("as the 3001st would be", ArithmeticException.class, () -> x.match(later));
    }

    /** A match has its 3000 whatever was begun by matches, ways and scans ahead of it. */
    private static void dearMatchesAgain() {
        SnowbolFold x = new SnowbolFold();
        int deep = x.pattern('#', 0, 0);
        for (int number = 1; number < 40; number++) {
            deep = x.pattern(number % 3 == 0 ? '$' : number % 3 == 1 ? '.' : '|', deep, 0);
        }
        int dear = deep;
        int never = x.pattern('i', 0, 0);
        int vain = x.pattern('&', dear, never);
        x.term('v', 1, 0);
        x.scan(1, vain, -1, 0, 0);
        x.scan(1, dear, -1, 1, 1);
        Check.give(x, 'b', "z".repeat(60));
        x.anchor(true);
        Check.type(x, "z".repeat(60));
        CHECK.due("in vain", x.match(vain), false);
        int begun = x.begun();
        CHECK.due("dear", begun > 2 * 13, true);
        for (int time = 0; time < 60; time++) {
            CHECK.due("in vain again", x.match(vain), false);
            CHECK.due("begun again", x.begun(), begun);
            CHECK.due("no ways again", x.ways(vain), 0);
        }
        CHECK.due("scans in vain, again and again", x.run(0, 1000), 'l');
        CHECK.due("all fail", x.failed(0), 1000);
        CHECK.due("scans, again and again", x.run(1, 1000), 'l');
        CHECK.due("none fails", x.failed(1), 0);
        CHECK.due("a match behind that", x.match(dear), true);
        CHECK.due("begun", x.begun(), 40);
    }

    /** ... up to 200; nothing is assigned but at once. */
    private static void waysUpTo200() {
        for (int count : new int[] {199, 200, 201}) {
            SnowbolFold x = new SnowbolFold();
            int here = x.pattern('@', 0, 0);
            int none = x.pattern('#', 0, 0);
            int all = none;
            int left = count - 1;
            int[] trees = new int[8];
            trees[0] = none;
            for (int level = 1; level < 8; level++) {
                trees[level] = x.pattern('|', trees[level - 1], trees[level - 1]);
            }
            for (int level = 7; level >= 0; level--) {
                if ((left >> level & 1) == 1) {
                    all = x.pattern('|', all, trees[level]);
                }
            }
            int many = all;
            x.anchor(true);
            CHECK.due("ways of " + count, x.ways(many), count > 200 ? 200 : count);
            CHECK.due("way 198", x.way(many, 198), 0);
            if (count > 199) {
                CHECK.due("way 199", x.way(many, 199), 0);
            } else {
                CHECK.dueThrow("no way 199", NoSuchElementException.class, () -> x.way(many, 199));
            }
            CHECK.dueThrow("no way 200", NoSuchElementException.class, () -> x.way(many, 200));
            int marked = x.pattern('|', many, here);
            CHECK.due("one way more", x.ways(marked), 200);
            CHECK.due("not gone on to behind 200", x.size(0), count >= 200 ? 0 : 1);
        }
    }

    /** All ways are found by one match that is gone back over, so its 3000 are those of all ways together. */
    private static void begunByAllWays() {
        SnowbolFold x = new SnowbolFold();
        int none = x.pattern('#', 0, 0);
        int row = none;
        for (int number = 0; number < 8; number++) {
            row = x.pattern('&', row, none);
        }
        // each way begins the 17 of the row, each cursor begins 2 ahead of that
        int many = x.pattern('&', x.pattern('*', 0, 0), row);
        Check.type(x, SIXTY.substring(0, 18));
        CHECK.due("the first one", x.match(many), true);
        CHECK.due("begun", x.begun(), 19);
        x.anchor(true);
        CHECK.due("19 ways", x.ways(many), 19);
        x.anchor(false);
        Check.type(x, "ab");
        CHECK.due("6 ways", x.ways(many), 6);
        Check.type(x, SIXTY.substring(0, 16));
        CHECK.due("153 ways, 2635 begun", x.ways(many), 153);
        Check.type(x, SIXTY.substring(0, 17));
        CHECK.due("171 ways, 2943 begun", x.ways(many), 171);
        Check.type(x, SIXTY.substring(0, 18));
        CHECK.dueThrow("190 ways, 3268 begun", ArithmeticException.class, () -> x.ways(many));
        CHECK.dueThrow("a way of them", ArithmeticException.class, () -> x.way(many, 0));
        CHECK.due("a match has its first way alone", x.match(many), true);
        CHECK.due("begun", x.begun(), 19);
    }

    private static void waysOfNothing() {
        SnowbolFold x = new SnowbolFold();
        int any = x.pattern('*', 0, 0);
        int one = x.pattern('#', 1, 0);
        CHECK.due("any of nothing", x.ways(any), 1);
        CHECK.due("its way", x.way(any, 0), 0);
        CHECK.due("one of nothing", x.ways(one), 0);
        CHECK.dueThrow("no way", NoSuchElementException.class, () -> x.way(one, 0));
        Check.type(x, SIXTY);
        CHECK.due("one of 60", x.ways(one), 60);
        CHECK.due("the last", x.way(one, 59), 5960);
    }

    /** The first match found is that of all ways in their order. */
    private static void firstIsThatOfAllWays() {
        SnowbolFold x = new SnowbolFold();
        int two = x.pattern('#', 2, 0);
        int one = x.pattern('#', 1, 0);
        int either = x.pattern('|', two, one);
        int end = x.pattern('q', 0, 0);
        int toEnd = x.pattern('&', either, end);
        for (int pattern : new int[] {two, one, either, toEnd}) {
            Check.type(x, "abc");
            int first = x.way(pattern, 0);
            CHECK.due("match", x.match(pattern), true);
            CHECK.due("the first way", 100 * x.from() + x.to(), first);
            CHECK.due("sound", x.isSound(), true);
        }
    }

    /** Promises 23 to 25 and 34 at the edges of the last match. */
    private static void lastMatch() {
        SnowbolFold x = new SnowbolFold();
        int none = x.pattern('#', 0, 0);
        int all = x.pattern('m', 0, 0);
        int end = x.pattern('q', 0, 0);
        int never = x.pattern('i', 0, 0);
        CHECK.due("sound ahead of a match", x.isSound(), true);
        matches(x, none, "");
        CHECK.due("nothing of nothing", 100 * x.from() + x.to(), 0);
        CHECK.due("sound", x.isSound(), true);
        matches(x, all, SIXTY);
        CHECK.due("all of 60", 100 * x.from() + x.to(), 60);
        CHECK.due("sound", x.isSound(), true);
        matches(x, end, SIXTY);
        CHECK.due("the end of 60", 100 * x.from() + x.to(), 6060);
        CHECK.due("sound", x.isSound(), true);
        CHECK.due("what is typed stays", x.wipe(), 60);
        CHECK.due("sound as what is typed is gone", x.isSound(), true);
        CHECK.due("told as what is typed is gone", 100 * x.from() + x.to(), 6060);
        matches(x, never, "a");
        CHECK.due("begun, at both cursors", x.begun(), 2);
        CHECK.due("sound behind a match that failed", x.isSound(), true);
    }
}
