import java.util.NoSuchElementException;

/** The boundary cases of "Statements" and "Errors" and of promises 10 to 21, 30, 31 and 34, sentence by sentence. */
public final class RunEdgesTest {
    private static final Check CHECK = new Check("RunEdgesTest");

    public static void main(String[] args) {
        noStatements();
        fortyStatements();
        behindTheLast();
        whereToGoOn();
        noSuchStatement();
        stepsAtMost();
        backWithoutACall();
        assignmentsFail();
        scansFail();
        scansReplace();
        scansAssign();
        termsOfScans();
        assignedAheadOfErrors();
        errorsOfEachKind();
        fiveFunctions();
        savedAndPutBack();
        tenCalls();
        eachPutBack();
        backThroughTen();
        noSuchFunction();
        entries();
        underWay();
        shares();
        eachRunAnew();
        anchoredRuns();
        CHECK.finish();
    }

    /** A machine with the terms 0 "a", 1 "b", 2 one that fails, 3 an error, 4 the variable a, 5 nothing. */
    private static SnowbolFold machine() {
        SnowbolFold x = new SnowbolFold();
        Check.text(x, "a");
        Check.text(x, "b");
        Check.text(x, "");
        x.term('t', 0, 0);
        x.term('t', 1, 0);
        x.term('=', 0, 1);
        x.term('+', 0, 0);
        x.term('v', 0, 0);
        x.term('t', 2, 0);
        return x;
    }

    /** How a run ended, its error or a dash, steps, last, depth, and for each statement done and failed. */
    private static String run(SnowbolFold x, int first, int most) {
        StringBuilder all = new StringBuilder();
        all.append(x.run(first, most));
        try {
            all.append(x.error());
        } catch (NoSuchElementException e) {
            all.append('-');
        }
        all.append(' ').append(x.steps()).append(' ').append(x.last()).append(' ').append(x.depth()).append(':');
        for (int statement = 0; statement < x.statements(); statement++) {
            all.append(' ').append(x.done(statement)).append('/').append(x.failed(statement));
        }
        CHECK.due("sound", x.isSound(), true);
        return all.toString();
    }

    private static void noStatements() {
        SnowbolFold x = machine();
        CHECK.due("none", x.statements(), 0);
        CHECK.dueThrow("no statement 0", IndexOutOfBoundsException.class, () -> x.run(0, 1));
        CHECK.dueThrow("nothing was run", IllegalStateException.class, () -> x.done(0));
        CHECK.due("sound", x.isSound(), true);
        x.assign(0, 0, -4, -4);
        CHECK.due("one", x.statements(), 1);
        CHECK.due("run", run(x, 0, 1), "d- 1 0 0: 1/0");
    }

    /** At most 40 statements are numbered from 0. */
    private static void fortyStatements() {
        SnowbolFold x = machine();
        for (int statement = 0; statement < 40; statement++) {
            CHECK.due("assign", x.assign(statement % 26, statement % 2, -1, -1), statement);
        }
        CHECK.due("all", x.run(0, 1000), 'd');
        CHECK.due("steps", x.steps(), 40);
        CHECK.due("last", x.last(), 39);
        for (int statement = 0; statement < 40; statement++) {
            CHECK.due("done", x.done(statement), 1);
        }
        CHECK.dueThrow("no statement 40", IndexOutOfBoundsException.class, () -> x.done(40));
        CHECK.due("just enough steps", x.run(0, 40), 'd');
        CHECK.due("one step less", x.run(0, 39), 'l');
        CHECK.due("last", x.last(), 38);
        CHECK.due("not done", x.done(39), 0);
        CHECK.due("from the last", x.run(39, 1), 'd');
        CHECK.due("last", x.last(), 39);
        CHECK.dueThrow("from 40", IndexOutOfBoundsException.class, () -> x.run(40, 1));
    }

    /** Going on behind the last statement by -1 is the end. */
    private static void behindTheLast() {
        SnowbolFold x = machine();
        x.assign(0, 0, -1, 0);
        CHECK.due("by success", run(x, 0, 9), "d- 1 0 0: 1/0");
        x.assign(0, 2, 0, -1);
        CHECK.due("by failure", run(x, 1, 9), "d- 1 1 0: 0/0 1/1");
        CHECK.due("not the last", run(x, 0, 9), "d- 2 1 0: 1/0 1/1");
        for (int statement = 2; statement < 40; statement++) {
            x.assign(0, 0, 0, 0);
        }
        CHECK.due("behind it is one now", run(x, 1, 1).substring(0, 8), "l- 1 1 0");
        SnowbolFold y = machine();
        y.pattern('i', 0, 0);
        y.scan(0, 0, -1, 0, -1);
        CHECK.due("a scan", run(y, 0, 9), "d- 1 0 0: 1/1");
        y.define(0, 2, 1, 2, 3);
        y.assign(0, 0, -4, -4);
        y.assign(0, 0, -2, -2);
        y.call(0, 0, 0, -1, -1);
        CHECK.due("a call, back from a function", run(y, 3, 9), "d- 2 2 0: 0/0 0/0 1/0 1/0");
    }

    /** Each tells where to go on by success and by failure: a statement, -1 the next one, ..., -4 the end. */
    private static void whereToGoOn() {
        SnowbolFold x = machine();
        x.assign(0, 0, 39, 0);
        x.assign(0, 2, 1, 39);
        x.assign(0, 0, -4, -1);
        x.assign(0, 2, -1, -4);
        x.assign(0, 0, 4, -4);
        for (int statement = 5; statement < 39; statement++) {
            x.assign(0, 0, -1, -1);
        }
        x.assign(0, 0, 2, -1);
        CHECK.due("to 39 by success, to 2, the end", x.run(0, 9), 'd');
        CHECK.due("steps", x.steps(), 3);
        CHECK.due("last", x.last(), 2);
        CHECK.due("to 39 by failure", x.run(1, 9), 'd');
        CHECK.due("steps", x.steps(), 3);
        CHECK.due("failed", x.failed(1), 1);
        CHECK.due("the end by failure", x.run(3, 9), 'd');
        CHECK.due("steps", x.steps(), 1);
        CHECK.due("itself", x.run(4, 9), 'l');
        CHECK.due("done", x.done(4), 9);
        SnowbolFold y = machine();
        y.assign(0, 0, -4, -4);
        y.assign(0, 0, 0, -4);
        y.assign(0, 2, -4, 0);
        CHECK.due("to 0 by success", run(y, 1, 9), "d- 2 0 0: 1/0 1/0 0/0");
        CHECK.due("to 0 by failure", run(y, 2, 9), "d- 2 0 0: 1/0 0/0 1/1");
    }

    /** 7 no such statement to go on at */
    private static void noSuchStatement() {
        SnowbolFold x = machine();
        x.assign(0, 0, 1, 2);
        CHECK.due("the first that is not there", run(x, 0, 9), "x7 1 0 0: 1/0");
        CHECK.due("it was assigned", Check.value(x, 'a'), "a");
        x.assign(0, 2, 0, 39);
        CHECK.due("there now, the next one not", run(x, 0, 9), "x7 2 1 0: 1/0 1/1");
        x.assign(0, 0, -4, -4);
        CHECK.due("the last that may not be there", run(x, 1, 1), "x7 1 1 0: 0/0 1/1 0/0");
        x.pattern('i', 0, 0);
        x.scan(0, 0, -1, 0, 5);
        CHECK.due("by a scan", run(x, 3, 9), "x7 1 3 0: 0/0 0/0 0/0 1/1");
        x.call(0, 0, 2, 0, 5);
        CHECK.due("by a call that fails", run(x, 4, 9), "x7 1 4 0: 0/0 0/0 0/0 0/0 1/1");
        x.define(0, 2, 1, 2, 3);
        x.define(1, 6, 1, 2, 3);
        x.call(0, 1, 0, 39, 39);
        x.assign(0, 0, -2, -2);
        CHECK.due("as a call is back", run(x, 5, 9), "x7 2 6 0: 0/0 0/0 0/0 0/0 0/0 1/0 1/0");
    }

    /** l it would make more steps; steps: 1 to 1000 */
    private static void stepsAtMost() {
        SnowbolFold x = machine();
        x.assign(0, 0, -1, -1);
        x.assign(0, 0, -4, -4);
        CHECK.due("one of two", run(x, 0, 1), "l- 1 0 0: 1/0 0/0");
        CHECK.due("two of two", run(x, 0, 2), "d- 2 1 0: 1/0 1/0");
        x.assign(0, 0, 2, 2);
        CHECK.due("the most", run(x, 2, 1000), "l- 1000 2 0: 0/0 0/0 1000/0");
        CHECK.due("one less", run(x, 2, 999), "l- 999 2 0: 0/0 0/0 999/0");
        x.assign(0, 3, 2, 2);
        CHECK.due("an error is a step", run(x, 3, 1), "x1 1 3 0: 0/0 0/0 0/0 1/0");
        x.assign(0, 0, 3, 3);
        CHECK.due("an error ahead", run(x, 4, 1), "l- 1 4 0: 0/0 0/0 0/0 0/0 1/0");
        CHECK.due("an error come to", run(x, 4, 2), "x1 2 3 0: 0/0 0/0 0/0 1/0 1/0");
    }

    /** 6 back without a call */
    private static void backWithoutACall() {
        SnowbolFold x = machine();
        x.assign(0, 0, -2, 0);
        x.assign(0, 0, -3, 0);
        x.assign(0, 2, 0, -2);
        x.assign(0, 2, 0, -3);
        CHECK.due("with success by success", run(x, 0, 1), "x6 1 0 0: 1/0 0/0 0/0 0/0");
        CHECK.due("it was assigned", Check.value(x, 'a'), "a");
        CHECK.due("with failure by success", run(x, 1, 1), "x6 1 1 0: 0/0 1/0 0/0 0/0");
        CHECK.due("with success by failure", run(x, 2, 1), "x6 1 2 0: 0/0 0/0 1/1 0/0");
        CHECK.due("with failure by failure", run(x, 3, 1), "x6 1 3 0: 0/0 0/0 0/0 1/1");
        x.define(0, 5, 1, 2, 3);
        x.call(0, 0, 0, -2, -3);
        x.assign(3, 1, -2, -2);
        x.assign(3, 1, -3, -3);
        CHECK.due("back, and back once more", run(x, 4, 9), "x6 2 5 0: 0/0 0/0 0/0 0/0 1/0 1/0 0/0");
        CHECK.due("the call got the result", Check.value(x, 'a'), "b");
        x.define(0, 6, 1, 2, 3);
        CHECK.due("back with failure, and once more", run(x, 4, 9), "x6 2 6 0: 0/0 0/0 0/0 0/0 1/1 0/0 1/0");
    }

    /** It fails if a term fails. */
    private static void assignmentsFail() {
        SnowbolFold x = machine();
        x.assign(1, 2, 0, -4);
        x.assign(1, 5, -4, 0);
        x.assign(1, 1, -4, 0);
        Check.give(x, 'b', "before");
        CHECK.due("a term that fails", run(x, 0, 9), "d- 1 0 0: 1/1 0/0 0/0");
        CHECK.due("nothing is assigned", Check.value(x, 'b'), "before");
        CHECK.due("nothing is no failure", run(x, 1, 9), "d- 1 1 0: 0/0 1/0 0/0");
        CHECK.due("nothing is assigned", Check.value(x, 'b'), "");
        CHECK.due("a term", run(x, 2, 9), "d- 1 2 0: 0/0 0/0 1/0");
        CHECK.due("it is assigned", Check.value(x, 'b'), "b");
    }

    /** It fails if ... a scan does not match; a statement that fails leaves just what immediate assignments did. */
    private static void scansFail() {
        SnowbolFold x = machine();
        x.pattern('#', 1, 0);
        x.pattern('$', 0, 1);
        x.pattern('.', 1, 2);
        x.pattern('i', 0, 0);
        x.pattern('&', 2, 3);
        x.pattern('z', 0, 0);
        x.pattern('&', 2, 5);
        x.scan(0, 4, 1, 0, -4);
        x.scan(0, 6, 1, 0, -4);
        x.scan(0, 0, 3, 0, -4);
        Check.give(x, 'a', "xy");
        Check.give(x, 'c', "before");
        CHECK.due("no match", run(x, 0, 9), "d- 1 0 0: 1/1 0/0 0/0");
        CHECK.due("nothing is replaced", Check.value(x, 'a'), "xy");
        CHECK.due("what was done at once", Check.value(x, 'b'), "y");
        CHECK.due("nothing at the end", Check.value(x, 'c'), "before");
        CHECK.due("broken off", run(x, 1, 9), "d- 1 1 0: 0/0 1/1 0/0");
        CHECK.due("what was done at once", Check.value(x, 'b'), "x");
        CHECK.due("nothing at the end", Check.value(x, 'c'), "before");
        Check.give(x, 'a', "");
        CHECK.due("over nothing, ahead of the term", run(x, 2, 9), "d- 1 2 0: 0/0 0/0 1/1");
    }

    /** ... with a term that takes the place of what was matched, or none; 4 a value of more than 60 signs */
    private static void scansReplace() {
        SnowbolFold x = machine();
        x.pattern('#', 1, 0);
        x.pattern('#', 0, 0);
        x.pattern('m', 0, 0);
        x.term('v', 1, 0);
        x.scan(0, 0, 6, -4, -4);
        x.scan(0, 1, 6, -4, -4);
        x.scan(0, 2, 6, -4, -4);
        x.scan(0, 0, -1, -4, -4);
        String full = "z".repeat(60);
        Check.give(x, 'a', full);
        Check.give(x, 'b', "y");
        CHECK.due("one by one in 60", run(x, 0, 9), "d- 1 0 0: 1/0 0/0 0/0 0/0");
        CHECK.due("60", Check.value(x, 'a'), "y" + "z".repeat(59));
        CHECK.due("without a term", run(x, 3, 9), "d- 1 3 0: 0/0 0/0 0/0 1/0");
        CHECK.due("it stays", Check.value(x, 'a'), "y" + "z".repeat(59));
        CHECK.due("nothing by one in 60", run(x, 1, 9), "x4 1 1 0: 0/0 1/0 0/0 0/0");
        CHECK.due("it stays", Check.value(x, 'a'), "y" + "z".repeat(59));
        Check.give(x, 'b', "yy");
        CHECK.due("one by two in 60", run(x, 0, 9), "x4 1 0 0: 1/0 0/0 0/0 0/0");
        Check.give(x, 'a', "z".repeat(59));
        CHECK.due("one by two in 59", run(x, 0, 9), "d- 1 0 0: 1/0 0/0 0/0 0/0");
        CHECK.due("60", Check.value(x, 'a'), "yy" + "z".repeat(58));
        Check.give(x, 'b', full);
        CHECK.due("all by 60", run(x, 2, 9), "d- 1 2 0: 0/0 0/0 1/0 0/0");
        CHECK.due("60", Check.value(x, 'a'), full);
        Check.give(x, 'b', "");
        CHECK.due("nothing by nothing in 60", run(x, 1, 9), "d- 1 1 0: 0/0 1/0 0/0 0/0");
        CHECK.due("60", Check.value(x, 'a'), full);
        CHECK.due("one by nothing", run(x, 0, 9), "d- 1 0 0: 1/0 0/0 0/0 0/0");
        CHECK.due("59", x.size(0), 59);
        CHECK.due("all by nothing", run(x, 2, 9), "d- 1 2 0: 0/0 0/0 1/0 0/0");
        CHECK.due("none", x.size(0), 0);
        Check.give(x, 'b', full);
        CHECK.due("nothing of nothing by 60", run(x, 1, 9), "d- 1 1 0: 0/0 1/0 0/0 0/0");
        CHECK.due("60", Check.value(x, 'a'), full);
    }

    /** What is replaced is in the subject as it was ahead of the match. */
    private static void scansAssign() {
        SnowbolFold x = machine();
        x.pattern('#', 1, 0);
        x.pattern('$', 0, 0);
        x.pattern('.', 0, 0);
        x.pattern('m', 0, 0);
        x.pattern('$', 3, 0);
        x.pattern('#', 2, 0);
        x.pattern('p', 2, 0);
        x.pattern('&', 6, 1);
        x.scan(0, 1, -1, -4, -4);
        x.scan(0, 2, -1, -4, -4);
        x.scan(0, 1, 5, -4, -4);
        x.scan(0, 2, 5, -4, -4);
        x.scan(0, 7, 4, -4, -4);
        x.scan(0, 7, 2, -4, -4);
        for (int statement : new int[] {0, 1}) {
            Check.give(x, 'a', "xyz");
            x.run(statement, 1);
            CHECK.due("the subject's own variable, no term", Check.value(x, 'a'), "x");
        }
        for (int statement : new int[] {2, 3}) {
            Check.give(x, 'a', "xyz");
            x.run(statement, 1);
            CHECK.due("the subject's own variable, a term", Check.value(x, 'a'), "yz");
        }
        Check.give(x, 'a', "xyz.");
        x.run(4, 1);
        CHECK.due("the term sees what was assigned", Check.value(x, 'a'), "xyz.");
        Check.give(x, 'a', "xyz.");
        x.run(5, 1);
        CHECK.due("the term fails, what was assigned stays", Check.value(x, 'a'), "z");
    }

    /** In a scan the match comes first, then the term; if that fails, what the match assigned stays, ... */
    private static void termsOfScans() {
        for (int term : new int[] {2, 3}) {
            SnowbolFold x = machine();
            x.pattern('#', 1, 0);
            x.pattern('$', 0, 1);
            x.pattern('.', 1, 2);
            x.pattern('@', 3, 0);
            x.pattern('&', 2, 3);
            x.scan(0, 4, term, -4, -4);
            Check.give(x, 'a', "xy");
            CHECK.due("the term", run(x, 0, 9), term == 2 ? "d- 1 0 0: 1/1" : "x1 1 0 0: 1/0");
            CHECK.due("nothing is replaced", Check.value(x, 'a'), "xy");
            CHECK.due("what was assigned", Check.value(x, 'b') + Check.value(x, 'c') + Check.value(x, 'd'), "xx1");
        }
        SnowbolFold x = machine();
        x.pattern('#', 1, 0);
        x.pattern('.', 0, 1);
        x.term('v', 1, 0);
        x.term('=', 6, 0);
        x.scan(0, 1, 7, -4, -4);
        Check.give(x, 'a', "ab");
        CHECK.due("the term needs what the match assigned", run(x, 0, 9), "d- 1 0 0: 1/0");
        CHECK.due("replaced", Check.value(x, 'a'), "b");
        CHECK.due("it fails by that now", run(x, 0, 9), "d- 1 0 0: 1/1");
        CHECK.due("not replaced", Check.value(x, 'a'), "b");
    }

    /** An error ends the run; what was assigned up to it is not put back. */
    private static void assignedAheadOfErrors() {
        SnowbolFold x = machine();
        x.pattern('#', 1, 0);
        x.pattern('$', 0, 1);
        x.pattern('.', 1, 2);
        x.pattern('@', 3, 0);
        x.pattern('&', 2, 3);
        x.term('v', 25, 0);
        x.scan(0, 4, 6, -4, -4);
        Check.give(x, 'a', "y" + "z".repeat(59));
        Check.give(x, 'z', "yy");
        CHECK.due("too long", run(x, 0, 9), "x4 1 0 0: 1/0");
        CHECK.due("nothing is replaced", Check.value(x, 'a'), "y" + "z".repeat(59));
        CHECK.due("what was assigned", Check.value(x, 'b') + Check.value(x, 'c') + Check.value(x, 'd'), "yy1");
        x.pattern('*', 0, 0);
        x.pattern('$', 5, 1);
        x.pattern('i', 0, 0);
        x.pattern('&', 6, 7);
        x.pattern('.', 5, 2);
        x.pattern('&', 9, 8);
        x.scan(0, 10, -1, -4, -4);
        CHECK.due("too many begun", run(x, 1, 9), "x3 1 1 0: 0/0 1/0");
        CHECK.due("at once", x.size(1) > 1, true);
        CHECK.due("not at the end", Check.value(x, 'c'), "y");
    }

    /** A statement that is an error is done, and a step. An error ends the run. */
    private static void errorsOfEachKind() {
        SnowbolFold x = machine();
        Check.text(x, "0");
        int zero = x.term('t', 3, 0);
        int wide = x.term('v', 25, 0);
        int[] terms = {3, x.term('/', zero, zero), x.term('&', wide, 0), x.term('w', zero, 0)};
        int[] errors = {1, 2, 4, 8};
        x.pattern('#', 0, 0);
        x.define(0, 0, 1, 2, 3);
        Check.give(x, 'z', "z".repeat(60));
        for (int index = 0; index < 4; index++) {
            int[] made = {x.assign(0, terms[index], 0, 0), x.scan(0, 0, terms[index], 0, 0),
                x.call(0, 0, terms[index], 0, 0)};
            for (int statement : made) {
                CHECK.due("run", run(x, statement, 9).substring(0, 2), "x" + errors[index]);
                CHECK.due("steps", x.steps(), 1);
                CHECK.due("last", x.last(), statement);
                CHECK.due("done", x.done(statement), 1);
                CHECK.due("failed", x.failed(statement), 0);
                CHECK.due("share", x.failShare(), 0f);
                CHECK.due("depth", x.depth(), 0);
                CHECK.due("nothing is assigned", x.size(0) + x.size(1), 0);
            }
        }
    }

    /** The functions 0 to 4, each told with its own statement and names. */
    private static void fiveFunctions() {
        SnowbolFold x = new SnowbolFold();
        int given = x.term('v', 25, 0);
        for (int function = 0; function < 5; function++) {
            int parameter = 5 * function;
            int doubled = x.term('&', x.term('v', parameter, 0), x.term('v', parameter, 0));
            int local = x.term('v', parameter + 1, 0);
            x.define(function, function, parameter, parameter + 1, parameter + 2);
            x.assign(parameter + 2, x.term('&', doubled, local), -2, -2);
        }
        for (int function = 0; function < 5; function++) {
            x.call(5 * function + 3, function, given, -1, -4);
        }
        Check.give(x, 'z', "x");
        for (int function = 0; function < 5; function++) {
            for (int own = 0; own < 3; own++) {
                Check.give(x, (char) ('a' + 5 * function + own), "" + function + own);
            }
        }
        CHECK.due("run", run(x, 5, 99), "d- 10 4 0: 1/0 1/0 1/0 1/0 1/0 1/0 1/0 1/0 1/0 1/0");
        for (int function = 0; function < 5; function++) {
            for (int own = 0; own < 3; own++) {
                CHECK.due("put back", Check.value(x, (char) ('a' + 5 * function + own)), "" + function + own);
            }
            CHECK.due("the result", Check.value(x, (char) ('a' + 5 * function + 3)), "xx");
            CHECK.due("another one", x.size(5 * function + 4), 0);
        }
        CHECK.due("each told ahead", x.define(4, 4, 20, 21, 22), true);
    }

    /** A call saves the values of these three, the parameter gets the value of the term, the others nothing, ... */
    private static void savedAndPutBack() {
        String full = "z".repeat(60);
        SnowbolFold x = machine();
        x.define(0, 1, 0, 24, 25);
        x.call(1, 0, 4, -4, -4);
        x.assign(2, 4, 3, 3);
        x.assign(2, 4, -2, -2);
        x.assign(24, 1, -3, -3);
        for (char name : "abyz".toCharArray()) {
            Check.give(x, name, full);
        }
        CHECK.due("in the function", run(x, 0, 2), "l- 2 1 1: 1/0 1/0 0/0 0/0");
        CHECK.due("the parameter has its old value by the term", Check.value(x, 'a'), full);
        CHECK.due("the others nothing", x.size(24) + x.size(25), 0);
        for (char name : "abyz".toCharArray()) {
            Check.give(x, name, full);
        }
        CHECK.due("back with failure", run(x, 0, 9), "d- 3 3 0: 1/1 1/0 0/0 1/0");
        for (char name : "abyz".toCharArray()) {
            CHECK.due("as it was", Check.value(x, name), full);
        }
        x.define(0, 2, 0, 24, 25);
        CHECK.due("back with success", run(x, 0, 9), "d- 2 2 0: 1/0 0/0 1/0 0/0");
        CHECK.due("the result is nothing", x.size(1), 0);
        CHECK.due("as it was", Check.value(x, 'a') + Check.value(x, 'y') + Check.value(x, 'z'), full + full + full);
        ownVariables();
    }

    /** The variable of the call may be one of the three; it gets the result behind their being put back. */
    private static void ownVariables() {
        for (int variable = 0; variable < 3; variable++) {
            SnowbolFold x = machine();
            x.define(0, 1, 0, 1, 2);
            x.call(variable, 0, 0, -4, -4);
            x.assign(2, 1, -2, -2);
            Check.give(x, 'a', "p");
            Check.give(x, 'b', "q");
            Check.give(x, 'c', "r");
            CHECK.due("run", run(x, 0, 9), "d- 2 1 0: 1/0 1/0");
            String[] values = {"p", "q", "r"};
            values[variable] = "b";
            CHECK.due("the three", Check.value(x, 'a') + Check.value(x, 'b') + Check.value(x, 'c'),
                    String.join("", values));
            x.define(0, 1, 1, 2, 0);
            Check.give(x, (char) ('a' + variable), "before");
            CHECK.due("run", run(x, 0, 9), "d- 2 1 0: 1/0 1/0");
            CHECK.due("a result that is nothing", x.size(variable), 0);
        }
    }

    /** A function 0 that calls itself until its parameter has so many signs more; the term 0 is "a". */
    private static SnowbolFold calling(int times) {
        SnowbolFold x = machine();
        Check.text(x, "" + times);
        int most = x.term('t', 3, 0);
        int less = x.term('<', x.term('#', 4, 0), most);
        int longer = x.term('&', 4, x.term('&', 0, less));
        x.define(0, 1, 0, 1, 2);
        x.call(25, 0, 0, -4, -4);
        x.assign(1, longer, 2, 3);
        x.call(2, 0, x.term('v', 1, 0), -2, -3);
        x.assign(2, 4, -2, -2);
        x.assign(2, 4, -3, -3);
        return x;
    }

    /** At most 10 calls are under way; 5 more than 10 calls */
    private static void tenCalls() {
        CHECK.due("one", run(calling(1), 0, 999), "d- 3 3 0: 1/0 1/1 0/0 1/0 0/0");
        CHECK.due("nine", run(calling(9), 0, 999), "d- 19 3 0: 1/0 9/1 8/0 1/0 0/0");
        SnowbolFold x = calling(10);
        Check.give(x, 'c', "before");
        CHECK.due("ten", run(x, 0, 999), "d- 21 3 0: 1/0 10/1 9/0 1/0 0/0");
        CHECK.due("the result of the innermost", Check.value(x, 'z'), "a".repeat(10));
        CHECK.due("put back", Check.value(x, 'c'), "before");
        CHECK.due("ten, under way", run(x, 0, 19), "l- 19 2 10: 1/0 9/0 9/0 0/0 0/0");
        SnowbolFold y = calling(11);
        CHECK.due("eleven", run(y, 0, 999), "x5 21 2 10: 1/0 10/0 10/0 0/0 0/0");
        CHECK.due("what the tenth was given is not put back", Check.value(y, 'a'), "a".repeat(10));
        CHECK.due("its local", Check.value(y, 'b'), "a".repeat(11));
        CHECK.due("again, from none under way", run(y, 0, 999), "x5 21 2 10: 1/0 10/0 10/0 0/0 0/0");
    }

    /** What each of ten calls saved is put back: the product of 1 to 9, the parameter being needed behind each call. */
    private static void eachPutBack() {
        SnowbolFold x = new SnowbolFold();
        Check.text(x, "1");
        int one = x.term('t', 0, 0);
        int number = x.term('v', 0, 0);
        int less = x.term('<', number, one);
        int before = x.term('-', number, one);
        int product = x.term('*', number, x.term('v', 2, 0));
        int local = x.term('v', 1, 0);
        int row = x.term('&', local, number);
        x.define(0, 1, 0, 1, 2);
        x.call(25, 0, x.term('v', 24, 0), -4, -4);
        x.assign(2, one, -1, -1);
        x.assign(3, less, -2, -1);
        x.assign(1, row, -1, -1);
        x.call(2, 0, before, -1, -3);
        x.assign(4, x.term('&', x.term('v', 4, 0), local), -1, -1);
        x.assign(2, product, -2, -2);
        Check.give(x, 'y', "9");
        Check.give(x, 'a', "p");
        Check.give(x, 'b', "q");
        Check.give(x, 'c', "r");
        CHECK.due("run", run(x, 0, 999), "d- 57 6 0: 1/0 10/0 10/9 9/0 9/0 9/0 9/0");
        CHECK.due("the product", Check.value(x, 'z'), "362880");
        CHECK.due("each local", Check.value(x, 'e'), "123456789");
        CHECK.due("put back", Check.value(x, 'a') + Check.value(x, 'b') + Check.value(x, 'c'), "pqr");
        Check.give(x, 'y', "10");
        CHECK.due("one more", x.run(0, 999), 'x');
        CHECK.due("error", x.error(), 5);
    }

    /** Ten calls come back by one statement, with failure and with success, each counted if it failed. */
    private static void backThroughTen() {
        SnowbolFold x = calling(10);
        Check.give(x, 'a', "p");
        Check.give(x, 'b', "q");
        Check.give(x, 'c', "r");
        x.define(0, 5, 0, 1, 2);
        x.assign(1, 10, 2, 4);
        CHECK.due("back with failure through ten", run(x, 0, 999), "d- 21 4 0: 1/1 0/0 9/9 0/0 1/0 10/1");
        CHECK.due("share", x.failShare(), 11f / 21f);
        CHECK.due("put back", Check.value(x, 'a') + Check.value(x, 'b') + Check.value(x, 'c'), "pqr");
        CHECK.due("no result", x.size(25), 0);
    }

    /** 5 ... or no such function; a call works its term out first. */
    private static void noSuchFunction() {
        SnowbolFold x = machine();
        for (int function = 0; function < 5; function++) {
            int called = x.call(0, function, 0, -4, -4);
            CHECK.due("not told", run(x, called, 9).substring(0, 8), "x5 1 " + called + " 0");
        }
        x.define(3, 0, 1, 2, 3);
        CHECK.due("another one told", run(x, 4, 9).substring(0, 8), "x5 1 4 0");
        CHECK.due("nothing is assigned", x.size(0), 0);
        x.call(0, 4, 2, -4, -4);
        x.call(0, 4, 3, -4, -4);
        CHECK.due("the term fails first", run(x, 5, 9), "d- 1 5 0: 0/0 0/0 0/0 0/0 0/0 1/1 0/0");
        CHECK.due("the term is an error first", run(x, 6, 9), "x1 1 6 0: 0/0 0/0 0/0 0/0 0/0 0/0 1/0");
    }

    /** The entry, 0 to 39, need not be there as the function is told. */
    private static void entries() {
        SnowbolFold x = machine();
        x.define(0, 39, 1, 2, 3);
        x.call(0, 0, 0, -4, -4);
        CHECK.due("39 is not there", run(x, 0, 9), "x7 1 0 1: 1/0");
        x.define(0, 1, 1, 2, 3);
        CHECK.due("1 is not there", run(x, 0, 9), "x7 1 0 1: 1/0");
        x.assign(3, 1, -2, -2);
        CHECK.due("1 is there now", run(x, 0, 9), "d- 2 1 0: 1/0 1/0");
        CHECK.due("the result", Check.value(x, 'a'), "b");
        x.define(0, 39, 1, 2, 3);
        while (x.statements() < 39) {
            x.assign(3, 0, -2, -2);
        }
        x.assign(3, 5, -2, -2);
        CHECK.due("39 is there now", x.run(0, 9), 'd');
        CHECK.due("done", x.done(39), 1);
        CHECK.due("the result", x.size(0), 0);
        x.define(0, 0, 1, 2, 3);
        CHECK.due("itself, on and on", x.run(0, 99), 'x');
        CHECK.due("error", x.error(), 5);
        CHECK.due("done", x.done(0), 11);
        CHECK.due("steps", x.steps(), 11);
        CHECK.due("depth", x.depth(), 10);
    }

    /** How many calls were under way as the last run ended; what they saved is not put back. */
    private static void underWay() {
        SnowbolFold x = machine();
        x.define(0, 1, 0, 1, 2);
        x.call(25, 0, 0, -4, -4);
        x.assign(2, 1, -4, -4);
        Check.give(x, 'a', "p");
        Check.give(x, 'b', "q");
        CHECK.due("the end in a function", run(x, 0, 9), "d- 2 1 1: 1/0 1/0");
        CHECK.due("not put back", Check.value(x, 'a') + Check.value(x, 'b') + Check.value(x, 'c'), "ab");
        CHECK.due("no result", x.size(25), 0);
        x.assign(2, 1, -2, -2);
        CHECK.due("the calls of the run before are none", run(x, 2, 9), "x6 1 2 0: 0/0 0/0 1/0");
        CHECK.due("none under way", x.depth(), 0);
    }

    /** Their number divided by that of steps; a call that comes back so counts. */
    private static void shares() {
        SnowbolFold x = machine();
        x.assign(0, 2, -1, -1);
        x.assign(0, 2, -1, -1);
        x.assign(0, 0, -4, -4);
        x.run(0, 9);
        CHECK.due("two of three", x.failShare(), 2f / 3f);
        x.run(0, 2);
        CHECK.due("all", x.failShare(), 1f);
        x.run(2, 1);
        CHECK.due("none", x.failShare(), 0f);
        x.assign(0, 2, 3, 3);
        x.run(3, 1000);
        CHECK.due("1000 of 1000", x.failShare(), 1f);
        CHECK.due("failed", x.failed(3), 1000);
        x.define(0, 5, 1, 2, 3);
        x.call(0, 0, 0, -4, -4);
        x.assign(0, 2, -3, -3);
        x.run(4, 9);
        CHECK.due("the statement in the function and its call", x.failShare(), 1f);
    }

    /** error, last, steps, done, failed and depth tell of the last run alone. */
    private static void eachRunAnew() {
        SnowbolFold x = machine();
        x.assign(0, 2, -1, -1);
        x.assign(0, 3, -1, -1);
        x.assign(0, 0, -4, -4);
        CHECK.due("an error", run(x, 0, 9), "x1 2 1 0: 1/1 1/0 0/0");
        CHECK.due("none", run(x, 2, 9), "d- 1 2 0: 0/0 0/0 1/0");
        CHECK.due("the limit", run(x, 0, 1), "l- 1 0 0: 1/1 0/0 0/0");
        CHECK.due("an error again", run(x, 1, 9), "x1 1 1 0: 0/0 1/0 0/0");
        x.assign(0, 0, -4, -4);
        CHECK.due("a statement added behind the run", x.done(3), 0);
        CHECK.due("it did not fail", x.failed(3), 0);
        CHECK.due("the run stays", x.steps(), 1);
        CHECK.due("the error stays", x.error(), 1);
        Check.type(x, "a");
        x.pattern('m', 0, 0);
        x.match(0);
        CHECK.due("a match is no run", x.steps(), 1);
    }

    /** anchor: matches are anchored or not, not at first, also those of scans. */
    private static void anchoredRuns() {
        SnowbolFold x = machine();
        Check.text(x, "y");
        x.pattern('l', 3, 0);
        x.scan(0, 0, 5, -4, -4);
        Check.give(x, 'a', "xy");
        CHECK.due("at first", x.anchor(true), false);
        CHECK.due("anchored", run(x, 0, 9), "d- 1 0 0: 1/1");
        CHECK.due("again", x.anchor(false), true);
        CHECK.due("not anchored", run(x, 0, 9), "d- 1 0 0: 1/0");
        CHECK.due("replaced", Check.value(x, 'a'), "x");
        Check.give(x, 'a', "yy");
        x.anchor(true);
        CHECK.due("anchored at 0", run(x, 0, 9), "d- 1 0 0: 1/0");
        CHECK.due("replaced", Check.value(x, 'a'), "y");
    }
}
