/** Promise 28: work, for each kind of term. */
public final class WorkTest {
    private static final Check CHECK = new Check("WorkTest");

    public static void main(String[] args) {
        plain();
        numbers();
        wrongNumbers();
        rows();
        comparisons();
        names();
        order();
        CHECK.finish();
    }

    /** Works a term of two values out: its value, or "fails" or "error". */
    private static String two(char kind, String a, String b) {
        SnowbolFold x = new SnowbolFold();
        Check.give(x, 'a', a);
        Check.give(x, 'b', b);
        x.term('v', 0, 0);
        x.term('v', 1, 0);
        return worked(x, x.term(kind, 0, 1));
    }

    private static String worked(SnowbolFold x, int term) {
        Check.type(x, "stays");
        try {
            boolean is = x.work(term);
            if (!is) {
                CHECK.due("typed behind a failure", Check.typed(x), "stays");
            }
            return is ? Check.typed(x) : "fails";
        } catch (ArithmeticException e) {
            CHECK.due("typed behind an error", Check.typed(x), "stays");
            return "error";
        }
    }

    private static void plain() {
        SnowbolFold x = new SnowbolFold();
        Check.text(x, "k\uD83D\uDE4F");
        Check.give(x, 'z', "value");
        x.term('t', 0, 0);
        x.term('v', 25, 0);
        CHECK.due("a text", worked(x, 0), "k\uD83D\uDE4F");
        CHECK.due("a variable", worked(x, 1), "value");
        Check.give(x, 'z', "other");
        CHECK.due("a variable then", worked(x, 1), "other");
        for (int far : new int[] {-1, 2, 50, Integer.MIN_VALUE, Integer.MAX_VALUE}) {
            CHECK.dueThrow("work " + far, IndexOutOfBoundsException.class, () -> x.work(far));
        }
        CHECK.due("no match was made", Check.value(x, 'z'), "other");
    }

    private static void numbers() {
        CHECK.due("+", two('+', "2", "40"), "42");
        CHECK.due("+ with zeros", two('+', "0002", "-0"), "2");
        CHECK.due("+ to nothing", two('+', "-5", "5"), "0");
        CHECK.due("+ the most", two('+', "999999998", "1"), "999999999");
        CHECK.due("- the least", two('-', "-999999998", "1"), "-999999999");
        CHECK.due("-", two('-', "7", "10"), "-3");
        CHECK.due("*", two('*', "-30", "100"), "-3000");
        CHECK.due("* of 0", two('*', "-30", "0"), "0");
        CHECK.due("/", two('/', "7", "2"), "3");
        CHECK.due("/ is cut", two('/', "-7", "2"), "-3");
        CHECK.due("/ of both", two('/', "-7", "-2"), "3");
        CHECK.due("/ to 0", two('/', "-1", "2"), "0");
        CHECK.due("- of -0", two('-', "-0", "000000000"), "0");
    }

    private static void wrongNumbers() {
        String[] wrong = {"", "-", "a", "1a", "+1", " 1", "1-", "--1", "1234567890", "-1234567890", "\uD83D\uDE00"};
        for (String value : wrong) {
            for (char kind : "+-*/<".toCharArray()) {
                CHECK.due(kind + " of " + value, two(kind, value, "1"), "error");
                CHECK.due(kind + " by " + value, two(kind, "1", value), "error");
            }
            CHECK.due("d by " + value, two('d', "a", value), "error");
        }
        CHECK.due("+ too big", two('+', "999999999", "1"), "error");
        CHECK.due("- too small", two('-', "-999999999", "1"), "error");
        CHECK.due("* too big", two('*', "999999999", "999999999"), "error");
        CHECK.due("* just too big", two('*', "100000", "10000"), "error");
        CHECK.due("/ by 0", two('/', "1", "0"), "error");
        CHECK.due("/ by -0", two('/', "0", "-0"), "error");
    }

    private static void rows() {
        CHECK.due("&", two('&', "ab", "cd"), "abcd");
        CHECK.due("& of nothing", two('&', "", ""), "");
        CHECK.due("& of 60", two('&', "a".repeat(30), "b".repeat(30)), "a".repeat(30) + "b".repeat(30));
        CHECK.due("& of 61", two('&', "a".repeat(30), "b".repeat(31)), "error");
        CHECK.due("d 0", two('d', "ab", "0"), "");
        CHECK.due("d -0", two('d', "ab", "-0"), "");
        CHECK.due("d 3", two('d', "ab", "03"), "ababab");
        CHECK.due("d 60", two('d', "a", "60"), "a".repeat(60));
        CHECK.due("d 60 of nothing", two('d', "", "60"), "");
        CHECK.due("d 61 of nothing", two('d', "", "61"), "error");
        CHECK.due("d -1", two('d', "a", "-1"), "error");
        CHECK.due("d to 62", two('d', "ab", "31"), "error");
        CHECK.due("#", two('#', "ab\uD83D\uDE00", ""), "3");
        CHECK.due("# of nothing", two('#', "", ""), "0");
        CHECK.due("# of 60", two('#', "a".repeat(60), ""), "60");
        CHECK.due("r", two('r', "ab\uD83D\uDE00", ""), "\uD83D\uDE00ba");
        CHECK.due("r of nothing", two('r', "", ""), "");
    }

    private static void comparisons() {
        CHECK.due("=", two('=', "ab", "ab"), "");
        CHECK.due("= of nothing", two('=', "", ""), "");
        CHECK.due("= another", two('=', "ab", "ac"), "fails");
        CHECK.due("= longer", two('=', "ab", "abc"), "fails");
        CHECK.due("= shorter", two('=', "abc", "ab"), "fails");
        CHECK.due("= the same number", two('=', "1", "01"), "fails");
        CHECK.due("<", two('<', "9", "10"), "");
        CHECK.due("< the same", two('<', "9", "09"), "fails");
        CHECK.due("< more", two('<', "9", "-10"), "fails");
        CHECK.due("< less", two('<', "-10", "9"), "");
    }

    private static void names() {
        SnowbolFold x = new SnowbolFold();
        Check.give(x, 'b', "found");
        x.term('v', 0, 0);
        x.term('w', 0, 0);
        Check.give(x, 'a', "b");
        CHECK.due("w", worked(x, 1), "found");
        Check.give(x, 'a', "z");
        CHECK.due("w of nothing", worked(x, 1), "");
        for (String wrong : new String[] {"", "ab", "A", "`", "{", "\uD83D\uDE00", "1"}) {
            Check.give(x, 'a', wrong);
            CHECK.due("w of " + wrong, worked(x, 1), "error");
        }
    }

    /** What is needed is worked out by the numbers, what is not needed does not matter. */
    private static void order() {
        SnowbolFold x = new SnowbolFold();
        Check.text(x, "1");
        Check.text(x, "x");
        x.term('t', 0, 0);
        x.term('t', 1, 0);
        x.term('+', 1, 1);
        x.term('=', 0, 1);
        x.term('&', 3, 2);
        x.term('=', 1, 0);
        x.term('+', 0, 1);
        x.term('&', 6, 5);
        x.term('&', 0, 0);
        CHECK.due("an error ahead of a failure", worked(x, 4), "error");
        CHECK.due("a failure ahead of an error", worked(x, 7), "fails");
        CHECK.due("what is not needed", worked(x, 8), "11");
        for (int number = 9; number < 50; number++) {
            x.term('&', number - 1, number - 9 < 2 ? number - 1 : 1);
        }
        CHECK.due("through many", worked(x, 45), "11111111" + "x".repeat(35));
    }
}
