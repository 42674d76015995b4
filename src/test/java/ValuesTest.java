import java.util.NoSuchElementException;

/** Promises 1 to 7, 29 and 32 to 34: what is typed, texts, variables, and sums over them. */
public final class ValuesTest {
    private static final Check CHECK = new Check("ValuesTest");

    public static void main(String[] args) {
        newObject();
        typing();
        texts();
        variables();
        sums();
        CHECK.finish();
    }

    private static void newObject() {
        SnowbolFold x = new SnowbolFold();
        CHECK.dueThrow("a text of a new object", IndexOutOfBoundsException.class, () -> x.pattern('l', 0, 0));
        CHECK.dueThrow("a pattern of a new object", IndexOutOfBoundsException.class, () -> x.match(0));
        CHECK.dueThrow("a term of a new object", IndexOutOfBoundsException.class, () -> x.work(0));
        CHECK.due("statements of a new object", x.statements(), 0);
        CHECK.dueThrow("a statement of a new object", IndexOutOfBoundsException.class, () -> x.run(0, 1));
        CHECK.due("typed of a new object", x.wipe(), 0);
        for (int variable = 0; variable < 26; variable++) {
            CHECK.due("size of a new variable", x.size(variable), 0);
        }
        CHECK.due("anchored at first", x.anchor(false), false);
        CHECK.due("told at first", x.define(4, 39, 0, 1, 2), false);
        CHECK.due("sound at first", x.isSound(), true);
    }

    private static void typing() {
        SnowbolFold x = new SnowbolFold();
        int[] wrong = {Integer.MIN_VALUE, -1, 0, 31, 127, 128, 128511, 128592, 65568, Integer.MAX_VALUE};
        for (int sign : wrong) {
            CHECK.dueThrow("type " + sign, IllegalArgumentException.class, () -> x.type(sign));
        }
        int[] right = {32, 126, 128512, 128591};
        for (int index = 0; index < right.length; index++) {
            CHECK.due("type " + right[index], x.type(right[index]), index + 1);
        }
        for (int index = 0; index < right.length; index++) {
            CHECK.due("typed " + index, x.typed(index), right[index]);
        }
        CHECK.dueThrow("typed 4", NoSuchElementException.class, () -> x.typed(4));
        CHECK.dueThrow("typed -1", NoSuchElementException.class, () -> x.typed(-1));
        for (int count = 5; count <= 60; count++) {
            CHECK.due("type the next", x.type('a'), count);
        }
        CHECK.dueThrow("type the 61st", IllegalStateException.class, () -> x.type('a'));
        CHECK.dueThrow("type the 61st, no sign", IllegalArgumentException.class, () -> x.type(10));
        CHECK.due("wipe", x.wipe(), 60);
        CHECK.due("wipe again", x.wipe(), 0);
        CHECK.dueThrow("typed behind wipe", NoSuchElementException.class, () -> x.typed(0));
        CHECK.due("type behind wipe", x.type('b'), 1);
    }

    private static void texts() {
        SnowbolFold x = new SnowbolFold();
        Check.type(x, "aaaaaaaaaaaaaaaaaaaaa");
        CHECK.dueThrow("a text of 21", UnsupportedOperationException.class, x::text);
        CHECK.due("typed stays", x.wipe(), 21);
        for (int number = 0; number < 30; number++) {
            Check.type(x, number == 0 ? "" : number == 1 ? "12345678901234567890" : "ab");
            CHECK.due("text", x.text(), number);
            CHECK.due("typed is gone", x.wipe(), 0);
        }
        Check.type(x, "a");
        CHECK.dueThrow("text 30", IllegalStateException.class, x::text);
        Check.type(x, "aaaaaaaaaaaaaaaaaaaaa");
        CHECK.dueThrow("text 30 of 21", UnsupportedOperationException.class, x::text);
        x.term('t', 0, 0);
        x.term('t', 1, 0);
        x.term('t', 29, 0);
        CHECK.due("work 0", x.work(0), true);
        CHECK.due("the empty text", Check.typed(x), "");
        x.work(1);
        CHECK.due("the text of 20", Check.typed(x), "12345678901234567890");
        x.work(2);
        CHECK.due("the last text", Check.typed(x), "ab");
    }

    private static void variables() {
        SnowbolFold x = new SnowbolFold();
        for (int variable : new int[] {-1, 26, Integer.MAX_VALUE, Integer.MIN_VALUE}) {
            CHECK.dueThrow("set", IndexOutOfBoundsException.class, () -> x.set(variable));
            CHECK.dueThrow("size", IndexOutOfBoundsException.class, () -> x.size(variable));
            CHECK.dueThrow("at", IndexOutOfBoundsException.class, () -> x.at(variable, 0));
            CHECK.dueThrow("at", IndexOutOfBoundsException.class, () -> x.at(variable, -1));
        }
        Check.type(x, "ab\uD83D\uDE00");
        CHECK.dueThrow("set 26", IndexOutOfBoundsException.class, () -> x.set(26));
        CHECK.due("set 25", x.set(25), 0);
        CHECK.due("typed is gone", x.wipe(), 0);
        CHECK.due("size 25", x.size(25), 3);
        CHECK.due("at 25, 0", x.at(25, 0), 97);
        CHECK.due("at 25, 2", x.at(25, 2), 128512);
        CHECK.dueThrow("at 25, 3", NoSuchElementException.class, () -> x.at(25, 3));
        CHECK.dueThrow("at 25, -1", NoSuchElementException.class, () -> x.at(25, -1));
        CHECK.due("size 24", x.size(24), 0);
        Check.type(x, "c");
        CHECK.due("set 25 again", x.set(25), 3);
        CHECK.due("set 25 to nothing", x.set(25), 1);
        CHECK.due("size 25 at last", x.size(25), 0);
        Check.type(x, "a".repeat(60));
        x.set(0);
        CHECK.due("size 0", x.size(0), 60);
        CHECK.due("at 0, 59", x.at(0, 59), 97);
        CHECK.dueThrow("at 0, 60", NoSuchElementException.class, () -> x.at(0, 60));
    }

    private static void sums() {
        SnowbolFold x = new SnowbolFold();
        CHECK.dueThrow("mean of nothing", ArithmeticException.class, x::meanSize);
        long empty = 7;
        for (int variable = 0; variable < 26; variable++) {
            empty *= 31;
        }
        CHECK.due("checksum of nothing", x.checksum(), empty);
        Check.give(x, 'a', "ab");
        CHECK.due("mean", x.meanSize(), 2.0);
        Check.give(x, 'z', "\uD83D\uDE00");
        Check.give(x, 'c', "xx");
        CHECK.due("mean of three", x.meanSize(), 5.0 / 3.0);
        long sum = ((7L * 31 + 97) * 31 + 98) * 31 + 2;
        sum = ((sum * 31 * 31 + 120) * 31 + 120) * 31 + 2;
        for (int variable = 3; variable < 25; variable++) {
            sum *= 31;
        }
        CHECK.due("checksum", x.checksum(), (sum * 31 + 128512) * 31 + 1);
        CHECK.due("sound", x.isSound(), true);
    }
}
