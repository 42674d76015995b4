import java.util.NoSuchElementException;

/** Promises 15 to 21 and 31: runs of statements, and what is told of the last one. */
public final class RunTest {
    private static final Check CHECK = new Check("RunTest");

    public static void main(String[] args) {
        beforeRuns();
        wrongNumbers();
        ways();
        limits();
        scans();
        failingTerms();
        calls();
        callsDeep();
        callErrors();
        errors();
        nothingChanges();
        CHECK.finish();
    }

    /** A machine with the terms 0 "a", 1 "b", 2 one that fails, 3 an error, 4 the variable a. */
    private static SnowbolFold machine() {
        SnowbolFold x = new SnowbolFold();
        Check.text(x, "a");
        Check.text(x, "b");
        x.term('t', 0, 0);
        x.term('t', 1, 0);
        x.term('=', 0, 1);
        x.term('+', 0, 0);
        x.term('v', 0, 0);
        return x;
    }

    private static String told(SnowbolFold x) {
        StringBuilder all = new StringBuilder();
        all.append(x.steps()).append(" steps, last ").append(x.last()).append(", depth ").append(x.depth());
        for (int statement = 0; statement < x.statements(); statement++) {
            all.append(", ").append(x.done(statement)).append('/').append(x.failed(statement));
        }
        CHECK.due("sound", x.isSound(), true);
        return all.toString();
    }

    private static void beforeRuns() {
        SnowbolFold x = machine();
        CHECK.dueThrow("error", IllegalStateException.class, x::error);
        CHECK.dueThrow("last", IllegalStateException.class, x::last);
        CHECK.dueThrow("steps", IllegalStateException.class, x::steps);
        CHECK.dueThrow("done", IllegalStateException.class, () -> x.done(-1));
        CHECK.dueThrow("failed", IllegalStateException.class, () -> x.failed(-1));
        CHECK.dueThrow("depth", IllegalStateException.class, x::depth);
        CHECK.dueThrow("failShare", IllegalStateException.class, x::failShare);
        x.assign(0, 0, -1, -1);
        CHECK.due("run", x.run(0, 1), 'd');
        CHECK.dueThrow("no error", NoSuchElementException.class, x::error);
        for (int far : new int[] {-1, 1, 40, Integer.MIN_VALUE, Integer.MAX_VALUE}) {
            CHECK.dueThrow("done " + far, IndexOutOfBoundsException.class, () -> x.done(far));
            CHECK.dueThrow("failed " + far, IndexOutOfBoundsException.class, () -> x.failed(far));
        }
        x.assign(0, 0, -1, -1);
        CHECK.due("done, added later", x.done(1), 0);
        CHECK.due("failed, added later", x.failed(1), 0);
    }

    private static void wrongNumbers() {
        SnowbolFold x = machine();
        x.assign(0, 0, -1, -1);
        for (int far : new int[] {0, -1, 1001, Integer.MIN_VALUE, Integer.MAX_VALUE}) {
            CHECK.dueThrow("steps " + far, IllegalArgumentException.class, () -> x.run(0, far));
            CHECK.dueThrow("steps " + far, IllegalArgumentException.class, () -> x.run(99, far));
        }
        for (int far : new int[] {1, -1, 40, Integer.MIN_VALUE, Integer.MAX_VALUE}) {
            CHECK.dueThrow("first " + far, IndexOutOfBoundsException.class, () -> x.run(far, 1));
        }
        CHECK.dueThrow("nothing was run", IllegalStateException.class, x::steps);
        CHECK.due("the most steps", x.run(0, 1000), 'd');
    }

    private static void ways() {
        SnowbolFold x = machine();
        x.assign(0, 0, 2, 3);
        x.assign(1, 0, -4, -4);
        x.assign(2, 2, -4, 1);
        x.assign(3, 0, -1, -1);
        CHECK.due("run", x.run(0, 9), 'd');
        CHECK.due("told", told(x), "3 steps, last 1, depth 0, 1/0, 1/0, 1/1, 0/0");
        CHECK.due("share", x.failShare(), 1f / 3f);
        CHECK.due("behind the last", x.run(3, 9), 'd');
        CHECK.due("told", told(x), "1 steps, last 3, depth 0, 0/0, 0/0, 0/0, 1/0");
        CHECK.due("share", x.failShare(), 0f);
        CHECK.due("assigned", Check.value(x, 'a') + Check.value(x, 'b') + Check.value(x, 'c'), "aa");
        x.assign(4, 2, -4, -1);
        CHECK.due("now behind 3 is one", x.run(3, 9), 'd');
        CHECK.due("told", told(x), "2 steps, last 4, depth 0, 0/0, 0/0, 0/0, 1/0, 1/1");
        CHECK.due("share", x.failShare(), 0.5f);
    }

    private static void limits() {
        SnowbolFold x = machine();
        x.assign(0, 0, -1, -1);
        x.assign(0, 2, -1, 0);
        CHECK.due("on and on", x.run(0, 5), 'l');
        CHECK.due("told", told(x), "5 steps, last 0, depth 0, 3/0, 2/2");
        CHECK.due("share", x.failShare(), 2f / 5f);
        CHECK.due("the most", x.run(0, 1000), 'l');
        CHECK.due("told", told(x), "1000 steps, last 1, depth 0, 500/0, 500/500");
        CHECK.dueThrow("no error", NoSuchElementException.class, x::error);
        x.assign(0, 0, -4, -4);
        CHECK.due("just enough", x.run(2, 1), 'd');
        x.assign(0, 0, -2, -2);
        CHECK.due("an error behind the last step", x.run(3, 1), 'x');
        x.assign(0, 0, 39, 39);
        CHECK.due("no statement behind the last step", x.run(4, 1), 'x');
        CHECK.due("error", x.error(), 7);
    }

    private static void scans() {
        SnowbolFold x = machine();
        x.pattern('#', 1, 0);
        x.pattern('$', 0, 0);
        x.pattern('.', 0, 1);
        x.pattern('&', 1, 2);
        Check.text(x, "c");
        x.pattern('l', 2, 0);
        x.pattern('&', 4, 3);
        x.term('v', 1, 0);
        x.term('&', 5, 5);
        x.scan(0, 5, 6, -4, -4);
        x.scan(0, 5, -1, -4, -4);
        Check.give(x, 'a', "abcdef");
        CHECK.due("run", x.run(0, 1), 'd');
        CHECK.due("in the subject as it was", Check.value(x, 'a'), "abeef");
        CHECK.due("at the end", Check.value(x, 'b'), "e");
        Check.give(x, 'a', "abcdef");
        CHECK.due("without a term", x.run(1, 1), 'd');
        CHECK.due("what was assigned at once", Check.value(x, 'a'), "d");
        Check.give(x, 'a', "abcd");
        CHECK.due("none", x.run(0, 1), 'd');
        CHECK.due("at once all the same", Check.value(x, 'a'), "d");
        CHECK.due("failed", x.failed(0), 1);
        x.anchor(true);
        Check.give(x, 'a', "abcdef");
        x.run(0, 1);
        CHECK.due("anchored", x.failed(0), 1);
        CHECK.due("as it was", Check.value(x, 'a'), "abcdef");
        replacing();
    }

    private static void replacing() {
        SnowbolFold x = machine();
        x.pattern('p', 0, 0);
        x.pattern('q', 0, 0);
        x.pattern('m', 0, 0);
        x.term('v', 1, 0);
        x.scan(0, 0, 5, -4, -4);
        x.scan(0, 1, 5, -4, -4);
        x.scan(0, 2, 5, -4, -4);
        Check.give(x, 'b', "xy");
        x.run(0, 1);
        CHECK.due("in nothing", Check.value(x, 'a'), "xy");
        Check.give(x, 'b', "0");
        x.run(0, 1);
        CHECK.due("ahead", Check.value(x, 'a'), "0xy");
        x.run(1, 1);
        CHECK.due("behind", Check.value(x, 'a'), "0xy0");
        x.run(2, 1);
        CHECK.due("all", Check.value(x, 'a'), "0");
        Check.give(x, 'a', "a".repeat(59));
        CHECK.due("to 60", x.run(1, 1), 'd');
        CHECK.due("60", Check.value(x, 'a'), "a".repeat(59) + "0");
        CHECK.due("to 61", x.run(0, 1), 'x');
        CHECK.due("error", x.error(), 4);
        CHECK.due("61", Check.value(x, 'a'), "a".repeat(59) + "0");
    }

    private static void failingTerms() {
        SnowbolFold x = machine();
        x.pattern('#', 1, 0);
        x.pattern('$', 0, 1);
        x.pattern('.', 1, 2);
        x.scan(0, 2, 2, -4, -1);
        x.scan(0, 2, 3, -4, -4);
        Check.give(x, 'a', "xyz");
        CHECK.due("a term that fails", x.run(0, 1), 'l');
        CHECK.due("told", told(x), "1 steps, last 0, depth 0, 1/1, 0/0");
        CHECK.due("nothing is replaced", Check.value(x, 'a'), "xyz");
        CHECK.due("at once stays", Check.value(x, 'b'), "x");
        CHECK.due("at the end stays", Check.value(x, 'c'), "x");
        Check.give(x, 'a', "yz");
        CHECK.due("a term that is an error", x.run(1, 1), 'x');
        CHECK.due("told", told(x), "1 steps, last 1, depth 0, 0/0, 1/0");
        CHECK.due("error", x.error(), 1);
        CHECK.due("share", x.failShare(), 0f);
        CHECK.due("nothing is replaced", Check.value(x, 'a'), "yz");
        CHECK.due("at the end stays", Check.value(x, 'c'), "y");
    }

    /** The function 0 has the parameter p, the local q and the result r. */
    private static void calls() {
        SnowbolFold x = machine();
        x.term('v', 'p' - 'a', 0);
        x.term('v', 'q' - 'a', 0);
        x.term('&', 5, 6);
        x.define(0, 2, 'p' - 'a', 'q' - 'a', 'r' - 'a');
        x.call(1, 0, 0, -1, -4);
        x.assign(2, 1, -4, -4);
        x.assign('r' - 'a', 7, -1, -1);
        x.assign('q' - 'a', 1, -2, -2);
        Check.give(x, 'p', "pp");
        Check.give(x, 'q', "qq");
        Check.give(x, 'r', "rr");
        CHECK.due("run", x.run(0, 9), 'd');
        CHECK.due("told", told(x), "4 steps, last 1, depth 0, 1/0, 1/0, 1/0, 1/0");
        CHECK.due("the result", Check.value(x, 'b'), "a");
        CHECK.due("put back", Check.value(x, 'p') + Check.value(x, 'q') + Check.value(x, 'r'), "ppqqrr");
        CHECK.due("in the midst", x.run(0, 2), 'l');
        CHECK.due("told", told(x), "2 steps, last 2, depth 1, 1/0, 0/0, 1/0, 0/0");
        CHECK.due("is not put back", Check.value(x, 'p') + Check.value(x, 'q') + Check.value(x, 'r'), "aa");
        Check.give(x, 'b', "");
        x.assign('r' - 'a', 0, -3, -3);
        x.define(0, 4, 'r' - 'a', 'q' - 'a', 'p' - 'a');
        CHECK.due("back with failure", x.run(0, 9), 'd');
        CHECK.due("told", told(x), "2 steps, last 4, depth 0, 1/1, 0/0, 0/0, 0/0, 1/0");
        CHECK.due("share", x.failShare(), 0.5f);
        CHECK.due("no result", Check.value(x, 'b'), "");
        CHECK.due("put back", Check.value(x, 'p') + Check.value(x, 'r'), "aa");
        x.call(1, 0, 2, -4, -4);
        CHECK.due("a term that fails calls nothing", x.run(5, 9), 'd');
        CHECK.due("told", told(x), "1 steps, last 5, depth 0, 0/0, 0/0, 0/0, 0/0, 0/0, 1/1");
        x.call('r' - 'a', 0, 1, -4, -4);
        x.define(0, 7, 'r' - 'a', 'q' - 'a', 'p' - 'a');
        x.assign('p' - 'a', 1, -4, -2);
        x.define(0, 8, 'r' - 'a', 'q' - 'a', 'p' - 'a');
        x.assign('p' - 'a', 1, -2, -2);
        CHECK.due("the variable of the call is one of the three", x.run(6, 9), 'd');
        CHECK.due("it gets the result", Check.value(x, 'r'), "b");
    }

    /** A function that calls itself until its parameter has 10 signs. */
    private static void callsDeep() {
        SnowbolFold x = machine();
        Check.text(x, "10");
        x.term('t', 2, 0);
        x.term('#', 4, 0);
        x.term('<', 6, 5);
        x.term('&', 4, 0);
        x.term('&', 4, 7);
        x.define(0, 1, 0, 1, 2);
        x.call(25, 0, 0, -4, -4);
        x.assign(3, 7, -1, 3);
        x.call(2, 0, 8, -2, -3);
        x.assign(2, 8, -2, -2);
        CHECK.due("ten calls", x.run(0, 1000), 'd');
        CHECK.due("told", told(x), "21 steps, last 3, depth 0, 1/0, 10/1, 9/0, 1/0");
        CHECK.due("the result", Check.value(x, 'z'), "a".repeat(11));
        Check.text(x, "11");
        x.define(0, 4, 0, 1, 2);
        x.term('t', 3, 0);
        x.term('<', 6, 10);
        x.assign(3, 11, 2, 3);
        CHECK.due("eleven calls", x.run(0, 1000), 'x');
        CHECK.due("error", x.error(), 5);
        CHECK.due("told", told(x), "21 steps, last 2, depth 10, 1/0, 0/0, 10/0, 0/0, 10/0");
        x.assign(3, 11, 2, -3);
        Check.text(x, "4");
        x.term('t', 4, 0);
        x.term('<', 6, 12);
        x.assign(3, 13, 2, -3);
        x.define(0, 6, 0, 1, 2);
        CHECK.due("back with failure through four", x.run(0, 1000), 'd');
        CHECK.due("told", told(x), "8 steps, last 6, depth 0, 1/1, 0/0, 3/3, 0/0, 0/0, 0/0, 4/1");
        CHECK.due("share", x.failShare(), 5f / 8f);
    }

    private static void callErrors() {
        SnowbolFold x = machine();
        x.call(0, 3, 0, -4, -4);
        CHECK.due("no such function", x.run(0, 1), 'x');
        CHECK.due("error", x.error(), 5);
        CHECK.due("told", told(x), "1 steps, last 0, depth 0, 1/0");
        x.call(0, 3, 3, -4, -4);
        CHECK.due("the term first", x.run(1, 1), 'x');
        CHECK.due("error", x.error(), 1);
        x.call(0, 3, 2, -4, -4);
        CHECK.due("the term first", x.run(2, 1), 'd');
        x.define(3, 39, 0, 1, 2);
        CHECK.due("no such statement", x.run(0, 1), 'x');
        CHECK.due("error", x.error(), 7);
        CHECK.due("told", told(x), "1 steps, last 0, depth 1, 1/0, 0/0, 0/0");
        x.define(3, 3, 0, 1, 2);
        x.assign(0, 0, 39, 39);
        CHECK.due("no such statement", x.run(0, 9), 'x');
        CHECK.due("error", x.error(), 7);
        CHECK.due("told", told(x), "2 steps, last 3, depth 1, 1/0, 0/0, 0/0, 1/0");
        x.assign(0, 0, -1, -1);
        x.define(3, 4, 0, 1, 2);
        CHECK.due("behind the last in a function", x.run(0, 9), 'd');
        CHECK.due("depth", x.depth(), 1);
        CHECK.dueThrow("no error any more", NoSuchElementException.class, x::error);
    }

    private static int errorOf(SnowbolFold x, int statement) {
        CHECK.due("run with an error", x.run(statement, 9), 'x');
        CHECK.due("steps", x.steps(), 1);
        CHECK.due("last", x.last(), statement);
        CHECK.due("done", x.done(statement), 1);
        return x.error();
    }

    private static void errors() {
        SnowbolFold x = machine();
        Check.text(x, "0");
        x.term('t', 2, 0);
        CHECK.due("no number", errorOf(x, x.assign(0, 3, 0, 0)), 1);
        CHECK.due("by 0", errorOf(x, x.assign(0, x.term('/', 5, 5), 0, 0)), 2);
        Check.give(x, 'a', "a".repeat(60));
        CHECK.due("too long", errorOf(x, x.assign(0, x.term('&', 4, 0), 0, 0)), 4);
        CHECK.due("no call", errorOf(x, x.assign(0, 0, -2, 0)), 6);
        CHECK.due("failed", x.failed(3), 0);
        CHECK.due("no call", errorOf(x, x.assign(0, 2, 0, -3)), 6);
        CHECK.due("failed", x.failed(4), 1);
        CHECK.due("no statement", errorOf(x, x.assign(0, 0, 39, 0)), 7);
        CHECK.due("no name", errorOf(x, x.assign(0, x.term('w', 5, 0), 0, 0)), 8);
        x.pattern('*', 0, 0);
        x.pattern('i', 0, 0);
        x.pattern('&', 0, 1);
        x.pattern('&', 0, 2);
        x.pattern('$', 0, 2);
        x.pattern('&', 4, 2);
        Check.give(x, 'a', "a".repeat(60));
        CHECK.due("too many begun", errorOf(x, x.scan(0, 5, 3, 0, 0)), 3);
        CHECK.due("at once stays", x.size(2) > 0, true);
        CHECK.due("the end", x.run(x.assign(0, 0, -4, 0), 1), 'd');
        CHECK.dueThrow("no error", NoSuchElementException.class, x::error);
    }

    private static void nothingChanges() {
        SnowbolFold x = machine();
        x.assign(0, 2, -1, -1);
        x.assign(0, 3, -1, -1);
        x.run(0, 9);
        String before = told(x);
        CHECK.dueThrow("run", IndexOutOfBoundsException.class, () -> x.run(2, 9));
        CHECK.dueThrow("run", IllegalArgumentException.class, () -> x.run(0, 0));
        CHECK.due("the last run", told(x), before);
        CHECK.due("the last error", x.error(), 1);
        x.work(0);
        CHECK.due("the last run", told(x), before);
    }
}
