import java.util.NoSuchElementException;

/** The boundary cases of "Signs, texts, names" and "Terms", and of promises 2 to 7, 28, 29 and 32 to 34. */
public final class ValueEdgesTest {
    private static final Check CHECK = new Check("ValueEdgesTest");
    private static final String HIGH = "\uD83D\uDE00";
    private static final String HIGHEST = "\uD83D\uDE4F";
    private static final String NINES = "999999999";

    public static void main(String[] args) {
        eachIsOneSign();
        sixtyHighSigns();
        textsFull();
        valuesFull();
        whatIsANumber();
        howNumbersAreWritten();
        sumsOfNumbers();
        quotients();
        rowsOfSigns();
        multiples();
        comparisons();
        names();
        secondNumbersWithoutMeaning();
        neededOnes();
        fiftyTerms();
        workTakesThePlace();
        sums();
        CHECK.finish();
    }

    /** The value of a term of two values, or "fails" or "error". */
    private static String two(String a, char kind, String b) {
        SnowbolFold x = new SnowbolFold();
        Check.give(x, 'a', a);
        Check.give(x, 'b', b);
        x.term('v', 0, 0);
        x.term('v', 1, 0);
        return worked(x, x.term(kind, 0, 1));
    }

    private static String worked(SnowbolFold x, int term) {
        try {
            return x.work(term) ? Check.typed(x) : "fails";
        } catch (ArithmeticException e) {
            return "error";
        }
    }

    /** The error of an assignment of a term of two values; 0 if there is none, -1 if it fails. */
    private static int error(String a, char kind, String b) {
        SnowbolFold x = new SnowbolFold();
        Check.give(x, 'a', a);
        Check.give(x, 'b', b);
        x.term('v', 0, 0);
        x.term('v', 1, 0);
        x.assign(2, x.term(kind, 0, 1), -4, -4);
        boolean is = x.run(0, 1) == 'x';
        CHECK.due("nothing is assigned by an error", is && x.size(2) > 0, false);
        return is ? x.error() : -x.failed(0);
    }

    /** Signs are numbers, 32 to 126 and 128512 to 128591; each is one sign, however it is kept. */
    private static void eachIsOneSign() {
        for (int sign = 32; sign <= 126; sign++) {
            one(sign);
        }
        for (int sign = 128512; sign <= 128591; sign++) {
            one(sign);
        }
    }

    private static void one(int sign) {
        SnowbolFold x = new SnowbolFold();
        CHECK.due("type", x.type(sign), 1);
        CHECK.due("typed", x.typed(0), sign);
        CHECK.due("set", x.set(3), 0);
        CHECK.due("size", x.size(3), 1);
        CHECK.due("at", x.at(3, 0), sign);
        x.type(sign);
        int text = x.text();
        int value = x.term('v', 3, 0);
        CHECK.due("its number of signs", worked(x, x.term('#', value, 0)), "1");
        CHECK.due("the same", x.work(x.term('=', value, x.term('t', text, 0))), true);
        x.type(sign);
        CHECK.due("matched", x.match(x.pattern('l', text, 0)), true);
        CHECK.due("as one", x.to(), 1);
        CHECK.due("in the text", x.match(x.pattern('n', text, 0)), true);
        CHECK.due("not out of it", x.match(x.pattern('o', text, 0)), false);
    }

    private static void sixtyHighSigns() {
        SnowbolFold x = new SnowbolFold();
        for (int count = 1; count <= 60; count++) {
            CHECK.due("type", x.type(128591), count);
        }
        CHECK.dueThrow("the 61st", IllegalStateException.class, () -> x.type(128591));
        CHECK.dueThrow("a text of 60", UnsupportedOperationException.class, x::text);
        CHECK.due("typed 59", x.typed(59), 128591);
        CHECK.dueThrow("typed 60", NoSuchElementException.class, () -> x.typed(60));
        CHECK.due("set", x.set(0), 0);
        CHECK.due("size", x.size(0), 60);
        CHECK.due("at", x.at(0, 59), 128591);
        CHECK.dueThrow("at 60", NoSuchElementException.class, () -> x.at(0, 60));
        CHECK.due("sound with 60", x.isSound(), true);
        CHECK.due("the mean", x.meanSize(), 60.0);
    }

    /** At most 30 texts, of at most 20 signs, are numbered from 0. */
    private static void textsFull() {
        SnowbolFold x = new SnowbolFold();
        StringBuilder signs = new StringBuilder();
        for (int text = 0; text < 30; text++) {
            Check.type(x, text % 2 == 0 ? HIGH.repeat(19) + (char) ('a' + text % 26) : "" + (char) ('A' + text % 26));
            CHECK.due("text", x.text(), text);
        }
        Check.type(x, "a");
        CHECK.dueThrow("text 30", IllegalStateException.class, x::text);
        CHECK.due("typed stays", x.wipe(), 1);
        CHECK.dueThrow("text 30 of nothing", IllegalStateException.class, x::text);
        for (int text = 0; text < 30; text++) {
            int term = x.term('t', text, 0);
            String value = worked(x, term);
            signs.append(value.charAt(value.length() - 1));
            CHECK.due("size of text " + text, value.codePointCount(0, value.length()), text % 2 == 0 ? 20 : 1);
        }
        CHECK.due("each as it was", signs.toString(), "aBcDeFgHiJkLmNoPqRsTuVwXyZaBcD");
        CHECK.dueThrow("no text 30", IndexOutOfBoundsException.class, () -> x.term('t', 30, 0));
        CHECK.dueThrow("no text 30", IndexOutOfBoundsException.class, () -> x.pattern('l', 30, 0));
    }

    /** The names 'a' to 'z' are the variables 0 to 25; each has a value of at most 60 signs, empty at first. */
    private static void valuesFull() {
        SnowbolFold x = new SnowbolFold();
        String full = "z".repeat(60);
        Check.give(x, 'a', full);
        Check.give(x, 'y', full);
        Check.give(x, 'z', full);
        CHECK.due("the one behind is empty", x.size(1), 0);
        CHECK.due("the one ahead is empty", x.size(23), 0);
        CHECK.due("a", Check.value(x, 'a'), full);
        CHECK.due("y", Check.value(x, 'y'), full);
        CHECK.due("z", Check.value(x, 'z'), full);
        Check.give(x, 'y', "b");
        CHECK.due("y again", Check.value(x, 'y'), "b");
        CHECK.due("z stays", Check.value(x, 'z'), full);
        CHECK.due("the mean of what is not empty", x.meanSize(), 121.0 / 3.0);
        CHECK.due("set to nothing", x.set(25), 60);
        CHECK.due("z is empty", x.size(25), 0);
        CHECK.dueThrow("no sign of an empty one", NoSuchElementException.class, () -> x.at(25, 0));
        CHECK.due("the mean without it", x.meanSize(), 61.0 / 2.0);
    }

    /** A number is a value of perhaps a '-' and 1 to 9 digits. */
    private static void whatIsANumber() {
        String[] right = {"0", "-0", "9", "-9", "000000000", "-000000000", NINES, "-" + NINES, "012345678"};
        String[] wrong = {"", "-", "--1", "1-", "-1-", "+1", " 1", "1 ", "1.0", "1a", "/", ":", "-/", "-:", HIGH,
            "1" + HIGH, "1234567890", "-1234567890", "0000000000", "-0000000000", "1".repeat(60)};
        for (char kind : "+-*<".toCharArray()) {
            for (String value : right) {
                CHECK.due(value + " " + kind + " 0 is no error", error(value, kind, "0") <= 0, true);
                CHECK.due("0 " + kind + " " + value + " is no error", error("0", kind, value) <= 0, true);
            }
        }
        for (String value : wrong) {
            for (char kind : "+-*/<".toCharArray()) {
                CHECK.due(value + " " + kind + " 1", error(value, kind, "1"), 1);
                CHECK.due("1 " + kind + " " + value, error("1", kind, value), 1);
            }
            CHECK.due("d " + value, error("", 'd', value), 1);
            CHECK.due("no number " + value + " by 0", error(value, '/', "0"), 1);
        }
    }

    /** Numbers that are reckoned are written without zeros ahead, 0 without '-'. */
    private static void howNumbersAreWritten() {
        CHECK.due("0", two("-0", '+', "000"), "0");
        CHECK.due("-0", two("-0", '*', "5"), "0");
        CHECK.due("0 by a negative one", two("0", '/', "-7"), "0");
        CHECK.due("cut to 0", two("-6", '/', "7"), "0");
        CHECK.due("1", two("000000001", '*', "000000001"), "1");
        CHECK.due("-1", two("000000001", '*', "-000000001"), "-1");
        CHECK.due("10", two("09", '+', "01"), "10");
        CHECK.due("100", two("0099", '+', "1"), "100");
        CHECK.due("-100", two("-0099", '-', "1"), "-100");
        CHECK.due("zeros within", two("100000000", '+', "7"), "100000007");
        CHECK.due("a number of signs", two("", '#', ""), "0");
        CHECK.due("9 signs", two("a".repeat(9), '#', ""), "9");
        CHECK.due("10 signs", two("a".repeat(10), '#', ""), "10");
        CHECK.due("60 signs", two(HIGH.repeat(60), '#', ""), "60");
    }

    /** ... or one that has more than 9 digits comes out */
    private static void sumsOfNumbers() {
        CHECK.due("9 digits", two(NINES, '+', "0"), NINES);
        CHECK.due("10 digits", error(NINES, '+', "1"), 1);
        CHECK.due("9 digits below", two("-" + NINES, '+', "-0"), "-" + NINES);
        CHECK.due("10 digits below", error("-" + NINES, '+', "-1"), 1);
        CHECK.due("the most", error(NINES, '+', NINES), 1);
        CHECK.due("9 digits", two("0", '-', NINES), "-" + NINES);
        CHECK.due("9 digits", two(NINES, '-', NINES), "0");
        CHECK.due("10 digits", error("-1", '-', NINES), 1);
        CHECK.due("10 digits", error("1", '-', "-" + NINES), 1);
        CHECK.due("9 digits", two("333333333", '*', "3"), NINES);
        CHECK.due("9 digits below", two("333333333", '*', "-3"), "-" + NINES);
        CHECK.due("10 digits", error("500000000", '*', "2"), 1);
        CHECK.due("10 digits below", error("500000000", '*', "-2"), 1);
        CHECK.due("what an int would wrap around to 0", error("65536", '*', "65536"), 1);
        CHECK.due("the most", error(NINES, '*', NINES), 1);
        CHECK.due("the most below", error(NINES, '*', "-" + NINES), 1);
    }

    /** '/' the last one cut; 2 a division by 0 */
    private static void quotients() {
        CHECK.due("by 1", two(NINES, '/', "1"), NINES);
        CHECK.due("by -1", two(NINES, '/', "-1"), "-" + NINES);
        CHECK.due("7 by 2", two("7", '/', "2"), "3");
        CHECK.due("-7 by 2", two("-7", '/', "2"), "-3");
        CHECK.due("7 by -2", two("7", '/', "-2"), "-3");
        CHECK.due("-7 by -2", two("-7", '/', "-2"), "3");
        CHECK.due("8 by 2", two("8", '/', "2"), "4");
        CHECK.due("0 by 1", two("0", '/', "1"), "0");
        CHECK.due("by 0", error("1", '/', "0"), 2);
        CHECK.due("by -0", error("1", '/', "-0"), 2);
        CHECK.due("by 000000000", error("1", '/', "000000000"), 2);
        CHECK.due("0 by 0", error("0", '/', "0"), 2);
    }

    /** '&' the signs of a, then those of b; 'r' the signs of a backward; 4 a value of more than 60 signs */
    private static void rowsOfSigns() {
        String full = HIGH.repeat(60);
        CHECK.due("& of nothing", two("", '&', ""), "");
        CHECK.due("& ahead of nothing", two("ab", '&', ""), "ab");
        CHECK.due("& behind nothing", two("", '&', "ab"), "ab");
        CHECK.due("& of 60 and none", two(full, '&', ""), full);
        CHECK.due("& of none and 60", two("", '&', full), full);
        CHECK.due("& of 59 and 1", two(HIGH.repeat(59), '&', "a"), HIGH.repeat(59) + "a");
        CHECK.due("& of 60 and 1", error(full, '&', "a"), 4);
        CHECK.due("& of 1 and 60", error("a", '&', full), 4);
        CHECK.due("& of 60 and 60", error(full, '&', full), 4);
        CHECK.due("r of nothing", two("", 'r', ""), "");
        CHECK.due("r of one", two(HIGH, 'r', ""), HIGH);
        CHECK.due("r of two", two(HIGH + HIGHEST, 'r', ""), HIGHEST + HIGH);
        CHECK.due("r of 60", two("a" + HIGH.repeat(58) + "b", 'r', ""), "b" + HIGH.repeat(58) + "a");
    }

    /** 'd' a, as often as the number b tells, 0 to 60; 1 ... or it is not 0 to 60 where that is needed */
    private static void multiples() {
        CHECK.due("0 times", two("ab", 'd', "0"), "");
        CHECK.due("-0 times", two("ab", 'd', "-0"), "");
        CHECK.due("once", two("ab", 'd', "000000001"), "ab");
        CHECK.due("0 times 60", two("a".repeat(60), 'd', "0"), "");
        CHECK.due("once 60", two("a".repeat(60), 'd', "1"), "a".repeat(60));
        CHECK.due("twice 30", two("a".repeat(30), 'd', "2"), "a".repeat(60));
        CHECK.due("twice 31", error("a".repeat(31), 'd', "2"), 4);
        CHECK.due("twice 60", error("a".repeat(60), 'd', "2"), 4);
        CHECK.due("60 times", two(HIGH, 'd', "60"), HIGH.repeat(60));
        CHECK.due("60 times two", error("ab", 'd', "60"), 4);
        CHECK.due("60 times nothing", two("", 'd', "60"), "");
        CHECK.due("61 times", error("a", 'd', "61"), 1);
        CHECK.due("61 times nothing", error("", 'd', "61"), 1);
        CHECK.due("61 times two", error("ab", 'd', "61"), 1);
        CHECK.due("-1 times", error("a", 'd', "-1"), 1);
        CHECK.due("the most times", error("a", 'd', NINES), 1);
        CHECK.due("the least times", error("a", 'd', "-" + NINES), 1);
        CHECK.due("a is no number", two("-", 'd', "3"), "---");
    }

    /** '=' nothing, if the values are the same, '<' nothing, if the number a is less than b; else these fail. */
    private static void comparisons() {
        CHECK.due("= of nothing", two("", '=', ""), "");
        CHECK.due("= of 60", two("a".repeat(60), '=', "a".repeat(60)), "");
        CHECK.due("= of 60, but the last", two("a".repeat(60), '=', "a".repeat(59) + "b"), "fails");
        CHECK.due("= of 60, but the first", two("a".repeat(60), '=', "b" + "a".repeat(59)), "fails");
        CHECK.due("= of 60 and 59", two("a".repeat(60), '=', "a".repeat(59)), "fails");
        CHECK.due("= of 59 and 60", two("a".repeat(59), '=', "a".repeat(60)), "fails");
        CHECK.due("= of one and nothing", two("a", '=', ""), "fails");
        CHECK.due("= of nothing and one", two("", '=', "a"), "fails");
        CHECK.due("= of 0 and -0", two("0", '=', "-0"), "fails");
        CHECK.due("< of the same", two("5", '<', "5"), "fails");
        CHECK.due("< of one less", two("4", '<', "5"), "");
        CHECK.due("< of one more", two("6", '<', "5"), "fails");
        CHECK.due("< of 0 and -0", two("0", '<', "-0"), "fails");
        CHECK.due("< of -0 and 0", two("-0", '<', "0"), "fails");
        CHECK.due("< of the least and the most", two("-" + NINES, '<', NINES), "");
        CHECK.due("< of the most and the least", two(NINES, '<', "-" + NINES), "fails");
        CHECK.due("< of 9 and 10", two("9", '<', "10"), "");
        CHECK.due("< of -9 and -10", two("-9", '<', "-10"), "fails");
        CHECK.due("a failure is none", error("5", '<', "5"), -1);
    }

    /** 'w' the value of the variable whose name the term a is; 8 no name of a variable by 'w' */
    private static void names() {
        SnowbolFold x = new SnowbolFold();
        Check.give(x, 'a', "first");
        Check.give(x, 'z', "last");
        int name = x.term('v', 1, 0);
        int value = x.term('w', name, 0);
        x.assign(2, value, -4, -4);
        Check.give(x, 'b', "a");
        CHECK.due("the first", worked(x, value), "first");
        Check.give(x, 'b', "z");
        CHECK.due("the last", worked(x, value), "last");
        Check.give(x, 'b', "b");
        CHECK.due("itself", worked(x, value), "b");
        Check.give(x, 'b', "y");
        CHECK.due("an empty one", worked(x, value), "");
        for (String wrong : new String[] {"", "`", "{", "A", "Z", "0", "aa", "a ", " a", HIGH, "a".repeat(60)}) {
            Check.give(x, 'b', wrong);
            CHECK.due("no name " + wrong, worked(x, value), "error");
            CHECK.due("run " + wrong, x.run(0, 1), 'x');
            CHECK.due("error " + wrong, x.error(), 8);
        }
    }

    /** b: the second number; without a meaning for t, v, w, # and r */
    private static void secondNumbersWithoutMeaning() {
        SnowbolFold x = new SnowbolFold();
        Check.give(x, 'a', "b");
        Check.give(x, 'b', "cd");
        int text = Check.text(x, "t");
        int value = x.term('v', 0, -7);
        int error = x.term('+', value, value);
        int fails = x.term('<', value, value);
        int[] seconds = {error, fails, 99, -1, Integer.MIN_VALUE, Integer.MAX_VALUE};
        for (int second : seconds) {
            CHECK.due("t", worked(x, x.term('t', text, second)), "t");
            CHECK.due("v", worked(x, x.term('v', 1, second)), "cd");
            CHECK.due("w", worked(x, x.term('w', value, second)), "cd");
            CHECK.due("#", worked(x, x.term('#', value, second)), "1");
            CHECK.due("r", worked(x, x.term('r', value, second)), "b");
        }
        textsAndVariablesAreNoTerms();
    }

    /** The number of a text or of a variable is not that of a term that is needed. */
    private static void textsAndVariablesAreNoTerms() {
        SnowbolFold x = new SnowbolFold();
        Check.text(x, "zero");
        Check.text(x, "one");
        int zero = x.term('t', 0, 0);
        int error = x.term('+', zero, zero);
        Check.give(x, 'b', "value");
        CHECK.due("the text of an error's number", worked(x, x.term('t', error, error)), "one");
        CHECK.due("the variable of an error's number", worked(x, x.term('v', error, error)), "value");
    }

    /** The terms that it needs are worked out first, by their numbers, each once; the first one that fails ... */
    private static void neededOnes() {
        SnowbolFold x = new SnowbolFold();
        Check.text(x, "1");
        Check.text(x, "x");
        int one = x.term('t', 0, 0);
        int sign = x.term('t', 1, 0);
        int error = x.term('+', sign, sign);
        int fails = x.term('=', one, sign);
        int division = x.term('/', one, x.term('-', one, one));
        CHECK.due("not needed, not worked out", worked(x, x.term('&', one, sign)), "1x");
        CHECK.due("an error first", worked(x, x.term('&', fails, error)), "error");
        CHECK.due("a failure first", worked(x, x.term('&', division, fails)), "fails");
        x.assign(0, x.term('&', division, error), -4, -4);
        x.assign(0, x.term('&', error, division), -4, -4);
        x.assign(0, x.term('&', fails, division), -4, -4);
        x.run(0, 1);
        CHECK.due("the error of the lower number", x.error(), 1);
        x.run(1, 1);
        CHECK.due("the error of the lower number", x.error(), 1);
        CHECK.due("the failure of the lower number", x.run(2, 1), 'd');
        CHECK.due("it fails", x.failed(2), 1);
        CHECK.due("one by itself", worked(x, error), "error");
        CHECK.due("one by itself", worked(x, fails), "fails");
    }

    /** At most 50 terms are numbered from 0, made of terms with lower numbers. */
    private static void fiftyTerms() {
        SnowbolFold x = new SnowbolFold();
        Check.text(x, "1");
        x.term('t', 0, 0);
        for (int number = 1; number < 50; number++) {
            CHECK.due("term", x.term('+', number - 1, 0), number);
        }
        CHECK.due("the last one needs all", worked(x, 49), "50");
        CHECK.due("again", worked(x, 49), "50");
        CHECK.due("the first one", worked(x, 0), "1");
        CHECK.dueThrow("term 50", IllegalStateException.class, () -> x.term('+', 49, 0));
        CHECK.dueThrow("no term 50", IndexOutOfBoundsException.class, () -> x.term('+', 50, 0));
        SnowbolFold y = new SnowbolFold();
        Check.text(y, "1");
        y.term('t', 0, 0);
        for (int number = 1; number < 50; number++) {
            y.term('+', number - 1, number - 1);
        }
        CHECK.due("doubled 29 times", worked(y, 29), "536870912");
        CHECK.due("doubled 30 times", worked(y, 30), "error");
        CHECK.due("doubled 49 times", worked(y, 49), "error");
    }

    /** Works a term out; the value takes the place of what is typed. */
    private static void workTakesThePlace() {
        SnowbolFold x = new SnowbolFold();
        int value = x.term('v', 0, 0);
        int fails = x.term('<', x.term('#', value, 0), x.term('#', value, 0));
        Check.type(x, "z".repeat(60));
        CHECK.due("an empty value", x.work(value), true);
        CHECK.due("nothing is typed", x.wipe(), 0);
        Check.give(x, 'a', HIGH.repeat(60));
        Check.type(x, "ab");
        CHECK.due("fails", x.work(fails), false);
        CHECK.due("typed stays", Check.typed(x), "ab");
        CHECK.due("60", x.work(value), true);
        CHECK.dueThrow("full", IllegalStateException.class, () -> x.type('a'));
        CHECK.due("60 typed", x.wipe(), 60);
        CHECK.due("the variable stays", x.size(0), 60);
        CHECK.due("over nothing typed", x.work(value), true);
        CHECK.due("fails over 60", x.work(fails), false);
        CHECK.due("60 stay", x.wipe(), 60);
    }

    /** Promises 32 to 34 over empty and full variables; the sum wraps around. */
    private static void sums() {
        SnowbolFold x = new SnowbolFold();
        CHECK.due("nothing", x.checksum(), sum(new String[26]));
        String[] values = new String[26];
        double total = 0;
        for (int variable = 0; variable < 26; variable++) {
            values[variable] = (variable % 2 == 0 ? HIGHEST : "~").repeat(60 - variable);
            Check.type(x, values[variable]);
            if (variable == 25) {
                CHECK.due("one is empty", x.meanSize(), total / 25.0);
            }
            x.set(variable);
            total += 60 - variable;
        }
        CHECK.due("all", x.checksum(), sum(values));
        CHECK.due("none is empty", x.meanSize(), total / 26.0);
        CHECK.due("sound", x.isSound(), true);
        SnowbolFold y = new SnowbolFold();
        y.type(' ');
        y.set(25);
        values = new String[26];
        values[25] = " ";
        CHECK.due("one sign", y.checksum(), sum(values));
        CHECK.due("the mean of one", y.meanSize(), 1.0);
        y.set(25);
        CHECK.due("none again", y.checksum(), sum(new String[26]));
        CHECK.dueThrow("no mean again", ArithmeticException.class, y::meanSize);
    }

    private static long sum(String[] values) {
        java.math.BigInteger sum = java.math.BigInteger.valueOf(7);
        java.math.BigInteger times = java.math.BigInteger.valueOf(31);
        for (String value : values) {
            int[] signs = value == null ? new int[0] : value.codePoints().toArray();
            for (int sign : signs) {
                sum = sum.multiply(times).add(java.math.BigInteger.valueOf(sign));
            }
            sum = sum.multiply(times).add(java.math.BigInteger.valueOf(signs.length));
        }
        return sum.longValue();
    }
}
