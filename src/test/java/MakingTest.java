/** Promises 8 to 14 and 30: making patterns, terms, statements and functions. */
public final class MakingTest {
    private static final Check CHECK = new Check("MakingTest");
    private static final Class<IllegalArgumentException> ARGUMENT = IllegalArgumentException.class;
    private static final Class<IndexOutOfBoundsException> INDEX = IndexOutOfBoundsException.class;
    private static final Class<IllegalStateException> STATE = IllegalStateException.class;
    private static final int[] FAR = {-1, Integer.MIN_VALUE, Integer.MAX_VALUE};

    public static void main(String[] args) {
        patterns();
        terms();
        statements();
        functions();
        anchoring();
        CHECK.finish();
    }

    private static void patterns() {
        SnowbolFold x = new SnowbolFold();
        for (char kind = 0; kind < 300; kind++) {
            char k = kind;
            if ("l|&nosk#trpqm*gxfzi$.@v".indexOf(kind) < 0) {
                CHECK.dueThrow("pattern of kind " + (int) kind, ARGUMENT, () -> x.pattern(k, 99, 99));
            }
        }
        for (char kind : "lnosk|&g$.".toCharArray()) {
            CHECK.dueThrow("made of what is not there " + kind, INDEX, () -> x.pattern(kind, 0, 0));
        }
        for (char kind : "@v".toCharArray()) {
            CHECK.dueThrow("variable 26 for " + kind, INDEX, () -> x.pattern(kind, 26, 0));
        }
        Check.text(x, "ab");
        int count = 0;
        for (char kind : "m*xfzi".toCharArray()) {
            CHECK.due("pattern " + kind, x.pattern(kind, -99, 999), count++);
        }
        for (char kind : "lnosk".toCharArray()) {
            CHECK.due("pattern " + kind, x.pattern(kind, 0, -99), count++);
            CHECK.dueThrow("text 1 for " + kind, INDEX, () -> x.pattern(kind, 1, 0));
        }
        for (char kind : "#trpq".toCharArray()) {
            CHECK.due("0 for " + kind, x.pattern(kind, 0, 99), count++);
            CHECK.due("60 for " + kind, x.pattern(kind, 60, 99), count++);
            CHECK.dueThrow("61 for " + kind, INDEX, () -> x.pattern(kind, 61, 0));
            CHECK.dueThrow("-1 for " + kind, INDEX, () -> x.pattern(kind, -1, 0));
        }
        for (char kind : "@v".toCharArray()) {
            CHECK.due("variable 25 for " + kind, x.pattern(kind, 25, 99), count++);
        }
        int own = count;
        for (char kind : "|&".toCharArray()) {
            CHECK.dueThrow("itself for " + kind, INDEX, () -> x.pattern(kind, 0, own));
            CHECK.dueThrow("itself for " + kind, INDEX, () -> x.pattern(kind, own, 0));
        }
        CHECK.dueThrow("itself for g", INDEX, () -> x.pattern('g', own, 0));
        CHECK.dueThrow("itself for $", INDEX, () -> x.pattern('$', own, 0));
        CHECK.dueThrow("variable 26 for $", INDEX, () -> x.pattern('$', 0, 26));
        CHECK.dueThrow("variable -1 for .", INDEX, () -> x.pattern('.', 0, -1));
        CHECK.due("pattern g", x.pattern('g', own - 1, 99), count++);
        CHECK.due("pattern |", x.pattern('|', own, own), count++);
        CHECK.due("pattern $", x.pattern('$', own + 1, 25), count++);
        for (char kind : "lnosk|&g$.@v#trpq".toCharArray()) {
            for (int far : FAR) {
                CHECK.dueThrow("far for " + kind, INDEX, () -> x.pattern(kind, far, 0));
            }
        }
        while (count < 50) {
            CHECK.due("more", x.pattern('m', 0, 0), count++);
        }
        CHECK.dueThrow("pattern 50", STATE, () -> x.pattern('m', 0, 0));
        CHECK.dueThrow("pattern 50 of nothing", INDEX, () -> x.pattern('l', 9, 0));
        CHECK.dueThrow("pattern 50 of no kind", ARGUMENT, () -> x.pattern('L', 9, 0));
    }

    private static void terms() {
        SnowbolFold x = new SnowbolFold();
        for (char kind = 0; kind < 300; kind++) {
            char k = kind;
            if ("tvw+-*/&#rd=<".indexOf(kind) < 0) {
                CHECK.dueThrow("term of kind " + (int) kind, ARGUMENT, () -> x.term(k, 99, 99));
            }
        }
        for (char kind : "tw+-*/&#rd=<".toCharArray()) {
            CHECK.dueThrow("made of what is not there " + kind, INDEX, () -> x.term(kind, 0, 0));
        }
        CHECK.dueThrow("variable 26", INDEX, () -> x.term('v', 26, 0));
        Check.text(x, "1");
        int count = 0;
        CHECK.due("term t", x.term('t', 0, -99), count++);
        CHECK.dueThrow("text 1", INDEX, () -> x.term('t', 1, 0));
        CHECK.due("term v", x.term('v', 25, 99), count++);
        for (char kind : "w#r".toCharArray()) {
            CHECK.due("term " + kind, x.term(kind, count - 1, 99), count++);
            int own = count;
            CHECK.dueThrow("itself for " + kind, INDEX, () -> x.term(kind, own, 0));
        }
        for (char kind : "+-*/&d=<".toCharArray()) {
            CHECK.due("term " + kind, x.term(kind, count - 1, 0), count++);
            int own = count;
            CHECK.dueThrow("itself for " + kind, INDEX, () -> x.term(kind, own, 0));
            CHECK.dueThrow("itself as the second for " + kind, INDEX, () -> x.term(kind, 0, own));
        }
        for (char kind : "tvw+-*/&#rd=<".toCharArray()) {
            for (int far : FAR) {
                CHECK.dueThrow("far for " + kind, INDEX, () -> x.term(kind, far, 0));
            }
        }
        while (count < 50) {
            CHECK.due("more", x.term('v', 0, 0), count++);
        }
        CHECK.dueThrow("term 50", STATE, () -> x.term('v', 0, 0));
        CHECK.dueThrow("term 50 of nothing", INDEX, () -> x.term('w', 50, 0));
        CHECK.dueThrow("term 50 of no kind", ARGUMENT, () -> x.term('x', 50, 0));
    }

    private static void statements() {
        SnowbolFold x = new SnowbolFold();
        CHECK.dueThrow("assign no term", INDEX, () -> x.assign(0, 0, -5, 0));
        CHECK.dueThrow("scan no pattern", INDEX, () -> x.scan(0, 0, -1, -5, 0));
        CHECK.dueThrow("call no term", INDEX, () -> x.call(0, 9, 0, -5, 0));
        x.term('v', 0, 0);
        x.pattern('m', 0, 0);
        for (int far : new int[] {-1, 26, Integer.MIN_VALUE, Integer.MAX_VALUE}) {
            CHECK.dueThrow("assign " + far, INDEX, () -> x.assign(far, 0, -5, 0));
            CHECK.dueThrow("scan " + far, INDEX, () -> x.scan(far, 0, 0, -5, 0));
            CHECK.dueThrow("call " + far, INDEX, () -> x.call(far, 9, 0, -5, 0));
        }
        for (int far : new int[] {-2, 1, Integer.MIN_VALUE, Integer.MAX_VALUE}) {
            CHECK.dueThrow("assign term " + far, INDEX, () -> x.assign(0, far, -5, 0));
            CHECK.dueThrow("scan term " + far, INDEX, () -> x.scan(0, 0, far, -5, 0));
            CHECK.dueThrow("scan pattern " + far, INDEX, () -> x.scan(0, far, -1, -5, 0));
            CHECK.dueThrow("call term " + far, INDEX, () -> x.call(0, 9, far, -5, 0));
        }
        CHECK.dueThrow("assign term -1", INDEX, () -> x.assign(0, -1, 0, 0));
        CHECK.dueThrow("call term -1", INDEX, () -> x.call(0, 0, -1, 0, 0));
        for (int far : new int[] {-5, 40, Integer.MIN_VALUE, Integer.MAX_VALUE}) {
            CHECK.dueThrow("assign yes " + far, ARGUMENT, () -> x.assign(0, 0, far, 0));
            CHECK.dueThrow("assign no " + far, ARGUMENT, () -> x.assign(0, 0, 0, far));
            CHECK.dueThrow("scan yes " + far, ARGUMENT, () -> x.scan(0, 0, 0, far, 0));
            CHECK.dueThrow("scan no " + far, ARGUMENT, () -> x.scan(0, 0, -1, 0, far));
            CHECK.dueThrow("call yes " + far, ARGUMENT, () -> x.call(0, 0, 0, far, 0));
            CHECK.dueThrow("call no " + far, ARGUMENT, () -> x.call(0, 0, 0, 0, far));
        }
        CHECK.dueThrow("call function 5", ARGUMENT, () -> x.call(0, 5, 0, 0, 0));
        CHECK.dueThrow("call function -1", ARGUMENT, () -> x.call(0, -1, 0, 0, 0));
        CHECK.due("none was made", x.statements(), 0);
        int count = 0;
        while (count < 39) {
            CHECK.due("assign", x.assign(25, 0, -4, 39), count++);
            CHECK.due("scan", x.scan(25, 0, -1, 39, -4), count++);
            CHECK.due("call", x.call(25, 4, 0, -4, 39), count++);
            CHECK.due("statements", x.statements(), count);
        }
        CHECK.due("assign", x.assign(0, 0, 0, 0), 39);
        CHECK.dueThrow("assign 40", STATE, () -> x.assign(0, 0, 0, 0));
        CHECK.dueThrow("scan 40", STATE, () -> x.scan(0, 0, 0, 0, 0));
        CHECK.dueThrow("call 40", STATE, () -> x.call(0, 0, 0, 0, 0));
        CHECK.dueThrow("assign 40, no way", ARGUMENT, () -> x.assign(0, 0, 0, -5));
        CHECK.dueThrow("scan 40, no way", ARGUMENT, () -> x.scan(0, 0, 0, 0, -5));
        CHECK.dueThrow("call 40, no function", ARGUMENT, () -> x.call(0, 5, 0, 0, 0));
        CHECK.due("statements at last", x.statements(), 40);
    }

    private static void functions() {
        SnowbolFold x = new SnowbolFold();
        for (int far : new int[] {-1, 5, Integer.MIN_VALUE, Integer.MAX_VALUE}) {
            CHECK.dueThrow("function " + far, ARGUMENT, () -> x.define(far, 0, 26, 27, 28));
        }
        for (int far : new int[] {-1, 40, Integer.MIN_VALUE, Integer.MAX_VALUE}) {
            CHECK.dueThrow("entry " + far, ARGUMENT, () -> x.define(0, far, 26, 27, 28));
        }
        CHECK.dueThrow("parameter and local", ARGUMENT, () -> x.define(0, 0, 1, 1, 2));
        CHECK.dueThrow("parameter and result", ARGUMENT, () -> x.define(0, 0, 1, 2, 1));
        CHECK.dueThrow("local and result", ARGUMENT, () -> x.define(0, 0, 2, 1, 1));
        CHECK.dueThrow("the same, none at all", ARGUMENT, () -> x.define(0, 0, 26, 26, 1));
        for (int far : new int[] {-1, 26, Integer.MIN_VALUE, Integer.MAX_VALUE}) {
            CHECK.dueThrow("parameter " + far, INDEX, () -> x.define(0, 0, far, 0, 1));
            CHECK.dueThrow("local " + far, INDEX, () -> x.define(0, 0, 0, far, 1));
            CHECK.dueThrow("result " + far, INDEX, () -> x.define(0, 0, 0, 1, far));
        }
        for (int function = 0; function < 5; function++) {
            CHECK.due("first told", x.define(function, 39, 23, 24, 25), false);
            CHECK.due("told again", x.define(function, 0, 2, 1, 0), true);
        }
    }

    private static void anchoring() {
        SnowbolFold x = new SnowbolFold();
        CHECK.due("at first", x.anchor(true), false);
        CHECK.due("then", x.anchor(true), true);
        CHECK.due("then", x.anchor(false), true);
        CHECK.due("then", x.anchor(false), false);
        x.pattern('#', 1, 0);
        Check.text(x, "b");
        x.pattern('l', 0, 0);
        Check.type(x, "ab");
        CHECK.due("not anchored", x.match(1), true);
        CHECK.due("ways not anchored", x.ways(0), 2);
        x.anchor(true);
        CHECK.due("anchored", x.match(1), false);
        CHECK.due("ways anchored", x.ways(0), 1);
        CHECK.due("begun anchored", x.begun(), 1);
    }
}
