import java.util.NoSuchElementException;

/** Promises 22 to 27: matches and ways, for each kind of pattern. */
public final class MatchTest {
    private static final Check CHECK = new Check("MatchTest");

    public static void main(String[] args) {
        singles();
        places();
        repeated();
        rowsAndAlternatives();
        fences();
        assignments();
        goneBackOver();
        lastMatch();
        tooMany();
        manyWays();
        unknown();
        CHECK.finish();
    }

    private static void due(SnowbolFold x, int pattern, String signs, String want) {
        CHECK.due("ways of " + pattern + " over " + signs, Check.ways(x, pattern, signs), want);
    }

    private static void singles() {
        SnowbolFold x = new SnowbolFold();
        Check.text(x, "ab");
        Check.text(x, "");
        for (char kind : "lnosk".toCharArray()) {
            x.pattern(kind, 0, 0);
        }
        due(x, 0, "abcab", "0-2 3-5");
        due(x, 0, "aab\uD83D\uDE00ab", "1-3 4-6");
        due(x, 0, "a", "");
        due(x, 1, "acb", "0-1 2-3");
        due(x, 2, "acb\uD83D\uDE00", "1-2 3-4");
        due(x, 3, "abcba", "0-2 1-2 3-5 4-5");
        due(x, 3, "", "");
        due(x, 4, "ccaxb", "0-2 1-2 2-2 3-4 4-4");
        due(x, 4, "cc", "");
        for (char kind : "lnosk".toCharArray()) {
            x.pattern(kind, 1, 0);
        }
        due(x, 5, "a", "0-0 1-1");
        due(x, 6, "a", "");
        due(x, 7, "a", "0-1");
        due(x, 8, "a", "");
        due(x, 9, "a", "");
        x.pattern('v', 2, 0);
        Check.give(x, 'c', "b\uD83D\uDE00");
        due(x, 10, "ab\uD83D\uDE00", "1-3");
        Check.give(x, 'c', "");
        due(x, 10, "a", "0-0 1-1");
        x.pattern('i', 0, 0);
        due(x, 11, "ab", "");
        due(x, 11, "", "");
    }

    private static void places() {
        SnowbolFold x = new SnowbolFold();
        for (char kind : "#trpq".toCharArray()) {
            x.pattern(kind, 2, 0);
        }
        due(x, 0, "abc", "0-2 1-3");
        due(x, 1, "abc", "0-2 1-2 2-2");
        due(x, 1, "a", "");
        due(x, 2, "abc", "0-1 1-1");
        due(x, 2, "a", "");
        due(x, 3, "abc", "2-2");
        due(x, 3, "a", "");
        due(x, 4, "abc", "1-1");
        due(x, 4, "a", "");
        x.pattern('m', 0, 0);
        due(x, 5, "ab", "0-2 1-2 2-2");
        due(x, 5, "", "0-0");
        x.pattern('#', 0, 0);
        due(x, 6, "ab", "0-0 1-1 2-2");
        x.pattern('#', 60, 0);
        due(x, 7, "ab".repeat(30), "0-60");
        x.pattern('r', 0, 0);
        due(x, 8, "ab", "0-2 1-2 2-2");
        x.pattern('q', 0, 0);
        due(x, 9, "ab", "2-2");
    }

    private static void repeated() {
        SnowbolFold x = new SnowbolFold();
        x.pattern('*', 0, 0);
        due(x, 0, "ab", "0-0 0-1 0-2 1-1 1-2 2-2");
        x.pattern('x', 0, 0);
        due(x, 1, "a(b)c", "0-1 0-4 0-5 1-4 1-5 2-3 4-5");
        due(x, 1, ")(", "");
        due(x, 1, "()()", "0-2 0-4 2-4");
        due(x, 1, "(()", "1-3");
        due(x, 1, "", "");
        Check.text(x, "ab");
        x.pattern('l', 0, 0);
        x.pattern('g', 2, 0);
        x.anchor(true);
        due(x, 3, "ababa", "0-0 0-2 0-4");
        due(x, 3, "b", "0-0");
        x.pattern('g', 0, 0);
        due(x, 4, "ab", "0-0 0-1 0-2 0-2");
        CHECK.due("ways end", x.ways(4), 4);
        x.pattern('#', 0, 0);
        x.pattern('g', 5, 0);
        due(x, 6, "ab", "0-0");
        x.pattern('g', 3, 0);
        due(x, 7, "abab", "0-0 0-2 0-4 0-4");
        Check.type(x, "abab");
        x.pattern('q', 0, 0);
        x.pattern('&', 3, 8);
        CHECK.due("to the end", x.match(9), true);
        // the row, the repeated, the end, twice what is repeated and the end, each come to
        CHECK.due("begun", x.begun(), 7);
    }

    private static void rowsAndAlternatives() {
        SnowbolFold x = new SnowbolFold();
        x.pattern('#', 1, 0);
        x.pattern('#', 2, 0);
        x.pattern('|', 0, 1);
        x.pattern('&', 2, 2);
        x.anchor(true);
        due(x, 2, "abcd", "0-1 0-2");
        due(x, 3, "abcd", "0-2 0-3 0-3 0-4");
        x.pattern('|', 1, 0);
        x.pattern('&', 4, 2);
        due(x, 5, "abc", "0-3 0-2 0-3");
        Check.type(x, "abcd");
        CHECK.due("match", x.match(3), true);
        CHECK.due("begun", x.begun(), 5);
        CHECK.due("from", x.from(), 0);
        CHECK.due("to", x.to(), 2);
        x.pattern('p', 4, 0);
        x.pattern('&', 3, 6);
        CHECK.due("match on", x.match(7), true);
        // & & | # | # p, then # p, then # | # p, then # p
        CHECK.due("begun on", x.begun(), 15);
        CHECK.due("to", x.to(), 4);
    }

    private static void fences() {
        SnowbolFold x = new SnowbolFold();
        x.pattern('*', 0, 0);
        x.pattern('f', 0, 0);
        x.pattern('z', 0, 0);
        x.pattern('p', 1, 0);
        x.pattern('&', 0, 1);
        x.pattern('&', 4, 3);
        due(x, 1, "ab", "0-0");
        due(x, 4, "ab", "0-0");
        due(x, 5, "ab", "");
        x.pattern('&', 1, 3);
        due(x, 6, "ab", "");
        x.pattern('&', 3, 1);
        due(x, 7, "ab", "1-1");
        x.pattern('|', 0, 2);
        due(x, 8, "ab", "0-0 0-1 0-2");
        x.pattern('|', 3, 2);
        due(x, 9, "ab", "");
        x.pattern('|', 2, 0);
        due(x, 10, "ab", "");
        Check.type(x, "ab");
        CHECK.due("match fence", x.match(5), false);
        CHECK.due("begun fence", x.begun(), 5);
        CHECK.due("match broken off", x.match(9), false);
        CHECK.due("begun broken off", x.begun(), 3);
    }

    private static void assignments() {
        SnowbolFold x = new SnowbolFold();
        x.pattern('#', 1, 0);
        x.pattern('$', 0, 0);
        x.pattern('.', 0, 1);
        x.pattern('&', 1, 2);
        x.pattern('i', 0, 0);
        x.pattern('&', 3, 4);
        Check.type(x, "ab");
        CHECK.due("a match that fails", x.match(5), false);
        CHECK.due("at once", Check.value(x, 'a'), "b");
        CHECK.due("not at the end", Check.value(x, 'b'), "");
        CHECK.due("a match", x.match(3), true);
        CHECK.due("at once", Check.value(x, 'a'), "a");
        CHECK.due("at the end", Check.value(x, 'b'), "b");
        CHECK.due("typed stays", Check.typed(x), "ab");
        x.pattern('*', 0, 0);
        x.pattern('.', 6, 2);
        x.pattern('&', 7, 0);
        x.pattern('.', 8, 2);
        x.pattern('q', 0, 0);
        x.pattern('&', 9, 10);
        Check.type(x, "abc");
        CHECK.due("inner and outer", x.match(11), true);
        CHECK.due("the outer one is the last", Check.value(x, 'c'), "abc");
        x.pattern('.', 7, 3);
        x.pattern('.', 0, 3);
        x.pattern('&', 12, 13);
        CHECK.due("one behind the other", x.match(14), true);
        CHECK.due("the last taken", Check.value(x, 'd'), "a");
        x.pattern('@', 4, 0);
        x.pattern('&', 15, 10);
        CHECK.due("cursors", x.match(16), true);
        CHECK.due("the last cursor", Check.value(x, 'e'), "3");
        Check.type(x, "abcdefghijkl");
        x.match(16);
        CHECK.due("a cursor of two digits", Check.value(x, 'e'), "12");
        x.pattern('$', 0, 5);
        x.pattern('v', 5, 0);
        x.pattern('&', 17, 18);
        Check.type(x, "abccd");
        CHECK.due("the same sign twice", x.match(19), true);
        CHECK.due("from", x.from(), 2);
        CHECK.due("what it took", Check.value(x, 'f'), "c");
        waysAssign();
    }

    /** What was taken and gone back over is not assigned. */
    private static void goneBackOver() {
        SnowbolFold x = new SnowbolFold();
        Check.text(x, "b");
        x.pattern('l', 0, 0);
        x.pattern('#', 2, 0);
        x.pattern('.', 1, 1);
        x.pattern('p', 1, 0);
        x.pattern('|', 3, 2);
        x.pattern('&', 4, 0);
        Check.type(x, "aba");
        CHECK.due("at the next cursor", x.match(5), true);
        CHECK.due("from", x.from(), 1);
        CHECK.due("nothing of the cursor before", Check.value(x, 'b'), "");
        x.pattern('&', 2, 0);
        x.pattern('#', 1, 0);
        x.pattern('|', 6, 7);
        CHECK.due("the other one", x.match(8), true);
        CHECK.due("to", x.to(), 1);
        CHECK.due("nothing of the first one", Check.value(x, 'b'), "");
        x.pattern('*', 0, 0);
        x.pattern('.', 9, 2);
        x.pattern('&', 10, 0);
        CHECK.due("one more each time", x.match(11), true);
        CHECK.due("what it took at last", Check.value(x, 'c'), "a");
        x.pattern('.', 7, 3);
        x.pattern('&', 12, 0);
        x.pattern('g', 12, 0);
        x.pattern('&', 14, 13);
        x.pattern('&', 15, 7);
        Check.type(x, "cdbe");
        CHECK.due("once more each time", x.match(16), true);
        CHECK.due("what was taken behind", Check.value(x, 'd'), "d");
    }

    private static void waysAssign() {
        SnowbolFold x = new SnowbolFold();
        x.pattern('*', 0, 0);
        x.pattern('$', 0, 0);
        x.pattern('.', 1, 1);
        Check.give(x, 'b', "kept");
        Check.type(x, "ab");
        CHECK.due("ways", x.ways(2), 6);
        CHECK.due("at once by ways", Check.value(x, 'a'), "");
        CHECK.due("never by ways", Check.value(x, 'b'), "kept");
        x.pattern('p', 0, 0);
        x.pattern('&', 3, 2);
        Check.type(x, "ab");
        CHECK.due("way", x.way(4, 0), 0);
        CHECK.due("at once by way, of all ways", Check.value(x, 'a'), "ab");
        Check.give(x, 'a', "other");
        Check.type(x, "ab");
        CHECK.dueThrow("no such way", NoSuchElementException.class, () -> x.way(4, 3));
        CHECK.dueThrow("no such way", NoSuchElementException.class, () -> x.way(4, -1));
        CHECK.dueThrow("no such way", NoSuchElementException.class, () -> x.way(4, Integer.MIN_VALUE));
        CHECK.due("nothing at once by no way", Check.value(x, 'a'), "other");
        CHECK.due("the last way", x.way(4, 2), 2);
    }

    private static void lastMatch() {
        SnowbolFold x = new SnowbolFold();
        x.pattern('#', 2, 0);
        x.pattern('i', 0, 0);
        Check.type(x, "abc");
        x.ways(0);
        CHECK.dueThrow("from", IllegalStateException.class, x::from);
        CHECK.dueThrow("to", IllegalStateException.class, x::to);
        CHECK.dueThrow("begun", IllegalStateException.class, x::begun);
        CHECK.due("match", x.match(0), true);
        x.wipe();
        x.ways(1);
        CHECK.due("from", x.from(), 0);
        CHECK.due("to", x.to(), 2);
        CHECK.due("begun", x.begun(), 1);
        CHECK.due("sound", x.isSound(), true);
        Check.type(x, "abc");
        CHECK.due("match", x.match(1), false);
        CHECK.dueThrow("from", NoSuchElementException.class, x::from);
        CHECK.dueThrow("to", NoSuchElementException.class, x::to);
        CHECK.due("begun at each cursor", x.begun(), 4);
        CHECK.due("sound", x.isSound(), true);
        x.term('v', 0, 0);
        x.scan(1, 0, -1, -4, -4);
        x.run(0, 1);
        CHECK.due("a scan is no match()", x.begun(), 4);
    }

    private static void tooMany() {
        SnowbolFold x = new SnowbolFold();
        x.pattern('*', 0, 0);
        x.pattern('i', 0, 0);
        x.pattern('&', 0, 1);
        x.pattern('$', 0, 0);
        x.pattern('&', 3, 2);
        x.anchor(true);
        Check.type(x, "a".repeat(10));
        CHECK.due("fails", x.match(2), false);
        CHECK.due("begun", x.begun(), 2 + 11);
        x.anchor(false);
        Check.type(x, "a".repeat(60));
        CHECK.due("fails", x.match(2), false);
        CHECK.due("begun", x.begun(), 61 * 2 + 61 * 62 / 2);
        Check.give(x, 'a', "before");
        Check.type(x, "a".repeat(60));
        CHECK.dueThrow("too many", ArithmeticException.class, () -> x.match(4));
        CHECK.due("as before", Check.value(x, 'a'), "before");
        CHECK.due("begun as before", x.begun(), 61 * 2 + 61 * 62 / 2);
        CHECK.dueThrow("too many ways", ArithmeticException.class, () -> x.ways(4));
        CHECK.dueThrow("too many for a way", ArithmeticException.class, () -> x.way(4, -1));
        CHECK.due("as before", Check.value(x, 'a'), "before");
        exactly3000();
    }

    private static void exactly3000() {
        SnowbolFold x = new SnowbolFold();
        x.pattern('i', 0, 0);
        x.pattern('|', 0, 0);
        // begun each: pattern 0 is 1, and an alternative of two is 1 more than both
        for (int number = 2; number <= 9; number++) {
            x.pattern('|', number - 1, number - 1);
        }
        x.anchor(true);
        Check.type(x, "");
        CHECK.due("a tree", x.match(9), false);
        CHECK.due("begun a tree", x.begun(), 1023);
        // six more alternatives, of 511, 255, 127, 31, 15 and 7 begun
        int all = x.pattern('|', 9, 9);
        for (int part : new int[] {8, 7, 6, 4, 3, 2}) {
            all = x.pattern('|', all, part);
        }
        int most = all;
        CHECK.due("more", x.match(most), false);
        CHECK.due("begun more", x.begun(), 2047 + 511 + 255 + 127 + 31 + 15 + 7 + 6);
        int one = x.pattern('|', most, 0);
        CHECK.dueThrow("3001", ArithmeticException.class, () -> x.match(one));
        CHECK.dueThrow("3001 ways", ArithmeticException.class, () -> x.ways(one));
        int name = x.pattern('.', most, 0);
        CHECK.due("3000", x.match(name), false);
        CHECK.due("begun 3000", x.begun(), 3000);
        CHECK.due("3000 ways", x.ways(name), 0);
    }

    private static void manyWays() {
        SnowbolFold x = new SnowbolFold();
        x.pattern('*', 0, 0);
        x.pattern('&', 0, 0);
        Check.type(x, "a".repeat(60));
        CHECK.due("200 ways", x.ways(0), 200);
        CHECK.due("200 ways of two", x.ways(1), 200);
        CHECK.due("way 199", x.way(0, 199), 322);
        CHECK.dueThrow("way 200", NoSuchElementException.class, () -> x.way(0, 200));
    }

    private static void unknown() {
        SnowbolFold x = new SnowbolFold();
        x.pattern('z', 0, 0);
        for (int far : new int[] {-1, 1, 50, Integer.MIN_VALUE, Integer.MAX_VALUE}) {
            CHECK.dueThrow("match " + far, IndexOutOfBoundsException.class, () -> x.match(far));
            CHECK.dueThrow("ways " + far, IndexOutOfBoundsException.class, () -> x.ways(far));
            CHECK.dueThrow("way " + far, IndexOutOfBoundsException.class, () -> x.way(far, -1));
        }
    }
}
