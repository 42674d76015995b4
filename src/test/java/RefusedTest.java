import java.util.ArrayList;
import java.util.List;
import java.util.NoSuchElementException;

/**
 * "A method that throws an exception changes nothing. If several exceptions apply, the one that is listed first is
 * thrown." Each method of the face is called with numbers on both sides of each limit, on objects with room and on
 * full ones, each time on a new object; what is due is told by the conditions in the order of the document.
 */
public final class RefusedTest {
    private static final Check CHECK = new Check("RefusedTest");
    private static final Class<IllegalArgumentException> ARGUMENT = IllegalArgumentException.class;
    private static final Class<IndexOutOfBoundsException> INDEX = IndexOutOfBoundsException.class;
    private static final Class<IllegalStateException> STATE = IllegalStateException.class;
    private static final Class<NoSuchElementException> ELEMENT = NoSuchElementException.class;
    private static final Class<ArithmeticException> ARITHMETIC = ArithmeticException.class;
    private static final Class<UnsupportedOperationException> UNSUPPORTED = UnsupportedOperationException.class;

    /** The numbers of an object's things, and how it was brought there. */
    private static final class Machine {
        final SnowbolFold x = new SnowbolFold();
        final int texts;
        final int patterns;
        final int terms;
        final int statements;

        /**
         * Text 0 is empty; the patterns begin with 0 any signs, 1 one that fails, 4 and 5 ones that assign at once and
         * fail, over 60 signs by too many begun; the terms with 0 "", 1 that of variable z, 2 one that fails, 3 an
         * error.
         */
        Machine(int texts, int patterns, int terms, int statements) {
            this.texts = texts;
            this.patterns = patterns;
            this.terms = terms;
            this.statements = statements;
            for (int text = 0; text < texts; text++) {
                x.text();
            }
            for (int variable : new int[] {0, 25}) {
                x.type('q');
                x.set(variable);
            }
            int[][] parts = {{'*', 0, 0}, {'i', 0, 0}, {'&', 0, 1}, {'$', 0, 0}, {'&', 3, 2}, {'|', 4, 4}};
            for (int pattern = 0; pattern < patterns; pattern++) {
                int[] part = pattern < parts.length ? parts[pattern] : parts[0];
                x.pattern((char) part[0], part[1], part[2]);
            }
            int[][] needed = {{'t', 0, 0}, {'v', 25, 0}, {'=', 0, 1}, {'+', 0, 0}};
            for (int term = 0; term < terms; term++) {
                int[] part = term < needed.length ? needed[term] : needed[0];
                x.term((char) part[0], part[1], part[2]);
            }
            for (int statement = 0; statement < statements; statement++) {
                x.assign(1, statement == 0 ? 2 : 3, -1, -1);
            }
        }

        Machine typed(int count) {
            x.wipe();
            for (int sign = 0; sign < count; sign++) {
                x.type('a' + sign % 26);
            }
            return this;
        }

        /** Runs into an error in the second statement. */
        Machine run() {
            x.run(0, 9);
            return this;
        }

        Machine matched() {
            if (patterns > 0) {
                x.match(0);
            }
            return this;
        }
    }

    private interface Maker {
        Machine make();
    }

    private interface Call {
        Object on(SnowbolFold x);
    }

    private static Machine small() {
        return new Machine(1, 6, 4, 2);
    }

    private static Object answer(Call call, SnowbolFold x) {
        try {
            return call.on(x);
        } catch (RuntimeException e) {
            return e.getClass();
        }
    }

    /** What the object tells of itself, without a call that changes it for good. */
    private static String told(SnowbolFold x) {
        List<Object> all = new ArrayList<>();
        for (int place : new int[] {0, 1, 19, 20, 21, 58, 59, 60}) {
            all.add(answer(y -> y.typed(place), x));
        }
        for (int statement : new int[] {0, 1, 39}) {
            all.add(answer(y -> y.done(statement), x));
            all.add(answer(y -> y.failed(statement), x));
        }
        all.add(x.checksum());
        all.add(x.statements());
        all.add(answer(SnowbolFold::error, x));
        all.add(answer(SnowbolFold::last, x));
        all.add(answer(SnowbolFold::steps, x));
        all.add(answer(SnowbolFold::depth, x));
        all.add(answer(SnowbolFold::failShare, x));
        all.add(answer(SnowbolFold::from, x));
        all.add(answer(SnowbolFold::to, x));
        all.add(answer(SnowbolFold::begun, x));
        all.add(answer(SnowbolFold::meanSize, x));
        all.add(x.isSound());
        boolean anchored = x.anchor(true);
        all.add(anchored);
        x.anchor(anchored);
        return all.toString();
    }

    /** The call is refused with an exception, and nothing is changed by that. */
    private static void refused(String what, Class<? extends RuntimeException> want, Maker maker, Call call) {
        Machine machine = maker.make();
        SnowbolFold x = machine.x;
        String before = told(x);
        CHECK.due(what, answer(call, x), want);
        CHECK.due("told behind " + what, told(x), before);
        x.wipe();
        Object full = STATE;
        CHECK.due("texts behind " + what, answer(SnowbolFold::text, x), machine.texts < 30 ? machine.texts : full);
        CHECK.due("patterns behind " + what, answer(y -> y.pattern('m', 0, 0), x),
                machine.patterns < 50 ? machine.patterns : full);
        CHECK.due("terms behind " + what, answer(y -> y.term('v', 0, 0), x),
                machine.terms < 50 ? machine.terms : full);
        for (int function = 0; function < 5; function++) {
            int number = function;
            CHECK.due("functions behind " + what, answer(y -> y.define(number, 0, 0, 1, 2), x), false);
        }
    }

    /** The call is refused, or, if nothing is wanted, it is not. */
    private static void due(String what, Class<? extends RuntimeException> want, Maker maker, Call call) {
        if (want != null) {
            refused(what, want, maker, call);
            return;
        }
        Object got = answer(call, maker.make().x);
        CHECK.due(what + " is taken, not " + got, got instanceof Class, false);
    }

    /** The exception of the first condition that holds; conditions and exceptions take turns. */
    private static Class<? extends RuntimeException> first(Object... all) {
        for (int index = 0; index < all.length; index += 2) {
            if ((Boolean) all[index]) {
                @SuppressWarnings("unchecked")
                Class<? extends RuntimeException> found = (Class<? extends RuntimeException>) all[index + 1];
                return found;
            }
        }
        return null;
    }

    private static boolean below(int number, int count) {
        return 0 <= number && number < count;
    }

    private static int[] around(int count) {
        return new int[] {Integer.MIN_VALUE, -1, 0, count - 1, count, Integer.MAX_VALUE};
    }

    public static void main(String[] args) {
        typing();
        variables();
        patterns();
        terms();
        assignments();
        scans();
        callsOfFunctions();
        functions();
        runs();
        ofTheLastRun();
        matches();
        ways();
        works();
        means();
        CHECK.finish();
    }

    private static void typing() {
        int[] signs = {Integer.MIN_VALUE, -1, 0, 31, 32, 126, 127, 128511, 128512, 128591, 128592, Integer.MAX_VALUE};
        for (int count : new int[] {0, 59, 60}) {
            for (int sign : signs) {
                boolean is = sign >= 32 && sign <= 126 || sign >= 128512 && sign <= 128591;
                due("type " + sign + " behind " + count, first(!is, ARGUMENT, count == 60, STATE),
                        () -> small().typed(count), x -> x.type(sign));
            }
        }
        for (int count : new int[] {0, 20, 21, 60}) {
            for (int texts : new int[] {1, 29, 30}) {
                due("text of " + count + " behind " + texts, first(count > 20, UNSUPPORTED, texts == 30, STATE),
                        () -> new Machine(texts, 6, 4, 2).typed(count), SnowbolFold::text);
            }
            for (int place : new int[] {Integer.MIN_VALUE, -1, 0, count - 1, count, Integer.MAX_VALUE}) {
                due("typed " + place + " of " + count, first(!below(place, count), ELEMENT),
                        () -> small().typed(count), x -> x.typed(place));
            }
        }
    }

    private static void variables() {
        for (int variable : around(26)) {
            boolean is = below(variable, 26);
            due("set " + variable, first(!is, INDEX), () -> small().typed(7), x -> x.set(variable));
            due("size " + variable, first(!is, INDEX), RefusedTest::small, x -> x.size(variable));
            for (int place : around(1)) {
                boolean there = (variable == 0 || variable == 25) && place == 0;
                due("at " + variable + ", " + place, first(!is, INDEX, !there, ELEMENT), RefusedTest::small,
                        x -> x.at(variable, place));
            }
        }
    }

    private static void patterns() {
        for (int count : new int[] {6, 49, 50}) {
            for (char kind : "l|&nosk#trpqm*gxfzi$.@vLa\0\u00FF".toCharArray()) {
                boolean isKind = "l|&nosk#trpqm*gxfzi$.@v".indexOf(kind) >= 0;
                int most = "lnosk".indexOf(kind) >= 0 ? 1 : "|&g$.".indexOf(kind) >= 0 ? count
                        : "@v".indexOf(kind) >= 0 ? 26 : "#trpq".indexOf(kind) >= 0 ? 61 : Integer.MAX_VALUE;
                boolean anyA = "m*xfzi".indexOf(kind) >= 0;
                int mostB = "|&".indexOf(kind) >= 0 ? count : "$.".indexOf(kind) >= 0 ? 26 : 0;
                for (int a : around(most)) {
                    for (int b : around(mostB == 0 ? 26 : mostB)) {
                        boolean is = (anyA || below(a, most)) && (mostB == 0 || below(b, mostB));
                        due("pattern " + (int) kind + ", " + a + ", " + b + " behind " + count,
                                first(!isKind, ARGUMENT, !is, INDEX, count == 50, STATE),
                                () -> new Machine(1, count, 4, 2), x -> x.pattern(kind, a, b));
                    }
                }
            }
        }
    }

    private static void terms() {
        for (int count : new int[] {4, 49, 50}) {
            for (char kind : "tvw+-*/&#rd=<Tx\0\u00FF".toCharArray()) {
                boolean isKind = "tvw+-*/&#rd=<".indexOf(kind) >= 0;
                int most = kind == 't' ? 1 : kind == 'v' ? 26 : count;
                boolean anyB = "tvw#r".indexOf(kind) >= 0;
                for (int a : around(most)) {
                    for (int b : around(count)) {
                        boolean is = below(a, most) && (anyB || below(b, count));
                        due("term " + (int) kind + ", " + a + ", " + b + " behind " + count,
                                first(!isKind, ARGUMENT, !is, INDEX, count == 50, STATE),
                                () -> new Machine(1, 6, count, 2), x -> x.term(kind, a, b));
                    }
                }
            }
        }
    }

    private static final int[] WAYS = {Integer.MIN_VALUE, -5, -4, -1, 0, 39, 40, Integer.MAX_VALUE};

    private static boolean isWay(int way) {
        return -4 <= way && way <= 39;
    }

    private static void assignments() {
        for (int count : new int[] {2, 39, 40}) {
            for (int yes : WAYS) {
                for (int no : WAYS) {
                    boolean are = isWay(yes) && isWay(no);
                    for (int variable : new int[] {-1, 0, 25, 26}) {
                        boolean is = below(variable, 26);
                        due("assign " + variable + ", " + yes + ", " + no + " behind " + count,
                                first(!is, INDEX, !are, ARGUMENT, count == 40, STATE),
                                () -> new Machine(1, 6, 4, count), x -> x.assign(variable, 0, yes, no));
                    }
                    for (int term : around(4)) {
                        due("assign term " + term + ", " + yes + ", " + no + " behind " + count,
                                first(!below(term, 4), INDEX, !are, ARGUMENT, count == 40, STATE),
                                () -> new Machine(1, 6, 4, count), x -> x.assign(0, term, yes, no));
                    }
                }
            }
        }
    }

    private static void scans() {
        int[] terms = {Integer.MIN_VALUE, -2, -1, 0, 3, 4, Integer.MAX_VALUE};
        for (int count : new int[] {2, 39, 40}) {
            for (int way : WAYS) {
                for (boolean asYes : new boolean[] {true, false}) {
                    int yes = asYes ? way : -4;
                    int no = asYes ? 39 : way;
                    for (int part : around(26)) {
                        due("scan " + part + ", " + yes + ", " + no + " behind " + count,
                                first(!below(part, 26), INDEX, !isWay(way), ARGUMENT, count == 40, STATE),
                                () -> new Machine(1, 6, 4, count), x -> x.scan(part, 0, -1, yes, no));
                    }
                    for (int part : around(6)) {
                        due("scan pattern " + part + ", " + yes + ", " + no + " behind " + count,
                                first(!below(part, 6), INDEX, !isWay(way), ARGUMENT, count == 40, STATE),
                                () -> new Machine(1, 6, 4, count), x -> x.scan(0, part, -1, yes, no));
                    }
                    for (int part : terms) {
                        due("scan term " + part + ", " + yes + ", " + no + " behind " + count,
                                first(part != -1 && !below(part, 4), INDEX, !isWay(way), ARGUMENT, count == 40, STATE),
                                () -> new Machine(1, 6, 4, count), x -> x.scan(0, 0, part, yes, no));
                    }
                }
            }
        }
    }

    private static void callsOfFunctions() {
        for (int count : new int[] {2, 39, 40}) {
            for (int way : WAYS) {
                for (boolean asYes : new boolean[] {true, false}) {
                    int yes = asYes ? way : -4;
                    int no = asYes ? 39 : way;
                    for (int function : around(5)) {
                        boolean are = isWay(way) && below(function, 5);
                        for (int part : new int[] {-1, 0, 25, 26}) {
                            due("call " + part + " of " + function + ", " + yes + ", " + no + " behind " + count,
                                    first(!below(part, 26), INDEX, !are, ARGUMENT, count == 40, STATE),
                                    () -> new Machine(1, 6, 4, count), x -> x.call(part, function, 0, yes, no));
                        }
                        for (int part : new int[] {-1, 3, 4}) {
                            due("call term " + part + " of " + function + ", " + yes + ", " + no + " behind " + count,
                                    first(!below(part, 4), INDEX, !are, ARGUMENT, count == 40, STATE),
                                    () -> new Machine(1, 6, 4, count), x -> x.call(0, function, part, yes, no));
                        }
                    }
                }
            }
        }
    }

    private static void functions() {
        int[] names = {-1, 0, 1, 25, 26};
        for (int function : around(5)) {
            for (int entry : around(40)) {
                for (int code = 0; code < 125; code++) {
                    int parameter = names[code / 25];
                    int local = names[code / 5 % 5];
                    int result = names[code % 5];
                    boolean out = !below(function, 5) || !below(entry, 40);
                    boolean same = parameter == local || parameter == result || local == result;
                    boolean are = below(parameter, 26) && below(local, 26) && below(result, 26);
                    Class<? extends RuntimeException> want = first(out || same, ARGUMENT, !are, INDEX);
                    Machine machine = new Machine(1, 4, 4, 1);
                    SnowbolFold x = machine.x;
                    String what = "define " + function + ", " + entry + ", " + parameter + ", " + local + ", " + result;
                    CHECK.due(what, answer(y -> y.define(function, entry, parameter, local, result), x),
                            want == null ? false : want);
                    if (below(function, 5)) {
                        CHECK.due("told by " + what, x.define(function, 0, 3, 4, 5), want == null);
                    }
                }
            }
        }
        keepsWhatWasTold();
    }

    /** A function that was told stays as it was if it is told wrongly behind that. */
    private static void keepsWhatWasTold() {
        SnowbolFold x = new Machine(1, 4, 4, 0).x;
        x.define(0, 1, 3, 4, 5);
        x.call(0, 0, 1, -4, -4);
        x.assign(5, 1, -2, -2);
        x.assign(6, 1, -4, -4);
        CHECK.dueThrow("entry 40", ARGUMENT, () -> x.define(0, 40, 6, 7, 8));
        CHECK.dueThrow("two the same", ARGUMENT, () -> x.define(0, 2, 6, 6, 8));
        CHECK.dueThrow("variable 26", INDEX, () -> x.define(0, 2, 6, 7, 26));
        CHECK.due("as it was told", x.run(0, 9), 'd');
        CHECK.due("its entry", x.done(1), 1);
        CHECK.due("its result", Check.value(x, 'a'), "q");
        CHECK.due("told again", x.define(0, 2, 6, 7, 8), true);
        CHECK.due("as it was told again", x.run(0, 9), 'd');
        CHECK.due("its entry now", x.done(2), 1);
    }

    private static void runs() {
        for (int count : new int[] {0, 1, 2, 40}) {
            for (int first : around(count)) {
                for (int steps : new int[] {Integer.MIN_VALUE, -1, 0, 1, 2, 1000, 1001, Integer.MAX_VALUE}) {
                    due("run " + first + ", " + steps + " of " + count,
                            first(steps < 1 || steps > 1000, ARGUMENT, !below(first, count), INDEX),
                            () -> new Machine(1, 6, 4, count), x -> x.run(first, steps));
                    if (count > 1) {
                        due("run again " + first + ", " + steps + " of " + count,
                                first(steps < 1 || steps > 1000, ARGUMENT, !below(first, count), INDEX),
                                () -> new Machine(1, 6, 4, count).run(), x -> x.run(first, steps));
                    }
                }
            }
        }
    }

    private static void ofTheLastRun() {
        refused("error ahead of a run", STATE, RefusedTest::small, SnowbolFold::error);
        refused("last ahead of a run", STATE, RefusedTest::small, SnowbolFold::last);
        refused("steps ahead of a run", STATE, RefusedTest::small, SnowbolFold::steps);
        refused("depth ahead of a run", STATE, RefusedTest::small, SnowbolFold::depth);
        refused("failShare ahead of a run", STATE, RefusedTest::small, SnowbolFold::failShare);
        Maker errorless = () -> {
            Machine machine = new Machine(1, 6, 4, 1);
            return machine.run();
        };
        refused("error of a run without", ELEMENT, errorless, SnowbolFold::error);
        due("error of a run with one", null, () -> small().run(), SnowbolFold::error);
        for (int count : new int[] {0, 1, 2, 40}) {
            for (int statement : around(count)) {
                refused("done " + statement + " ahead of a run", STATE, () -> new Machine(1, 6, 4, count),
                        x -> x.done(statement));
                refused("failed " + statement + " ahead of a run", STATE, () -> new Machine(1, 6, 4, count),
                        x -> x.failed(statement));
                if (count > 0) {
                    Class<? extends RuntimeException> want = first(!below(statement, count), INDEX);
                    due("done " + statement + " of " + count, want, () -> new Machine(1, 6, 4, count).run(),
                            x -> x.done(statement));
                    due("failed " + statement + " of " + count, want, () -> new Machine(1, 6, 4, count).run(),
                            x -> x.failed(statement));
                }
            }
        }
    }

    private static void matches() {
        for (int count : new int[] {0, 6, 50}) {
            for (int pattern : around(count)) {
                due("match " + pattern + " of " + count, first(!below(pattern, count), INDEX),
                        () -> new Machine(1, count, 4, 2).typed(3), x -> x.match(pattern));
            }
        }
        refused("too many begun", ARITHMETIC, () -> small().typed(60), x -> x.match(5));
        refused("too many begun behind a match", ARITHMETIC, () -> small().typed(60).matched(), x -> x.match(5));
        refused("no match 6 behind a match", INDEX, () -> small().typed(2).matched(), x -> x.match(6));
        for (Call call : new Call[] {SnowbolFold::from, SnowbolFold::to, SnowbolFold::begun}) {
            refused("told ahead of a match", STATE, () -> small().typed(2), call);
            due("told of a match", null, () -> small().typed(2).matched(), call);
        }
        Maker failed = () -> {
            Machine machine = small().typed(2).matched();
            machine.x.match(1);
            return machine;
        };
        refused("from of a match that failed", ELEMENT, failed, SnowbolFold::from);
        refused("to of a match that failed", ELEMENT, failed, SnowbolFold::to);
        due("begun of a match that failed", null, failed, SnowbolFold::begun);
    }

    private static void ways() {
        int[] indexes = {Integer.MIN_VALUE, -1, 0, 5, 6, 199, 200, Integer.MAX_VALUE};
        for (int count : new int[] {0, 6, 50}) {
            for (int pattern : around(count)) {
                boolean is = below(pattern, count);
                due("ways " + pattern + " of " + count, first(!is, INDEX),
                        () -> new Machine(1, count, 4, 2).typed(2), x -> x.ways(pattern));
                for (int index : indexes) {
                    boolean there = (pattern == 0 || pattern == 49) && below(index, 6);
                    due("way " + pattern + ", " + index + " of " + count, first(!is, INDEX, !there, ELEMENT),
                            () -> new Machine(1, count, 4, 2).typed(2).matched(), x -> x.way(pattern, index));
                }
            }
        }
        refused("too many begun by ways", ARITHMETIC, () -> small().typed(60).matched(), x -> x.ways(5));
        for (int index : indexes) {
            refused("too many begun by way " + index, ARITHMETIC, () -> small().typed(60).matched(),
                    x -> x.way(5, index));
            due("way " + index + " of 200", first(!below(index, 200), ELEMENT), () -> small().typed(60).matched(),
                    x -> x.way(0, index));
            refused("no way " + index + " that assigned at once", ELEMENT, () -> small().typed(9).matched(),
                    x -> x.way(5, index));
        }
    }

    private static void works() {
        for (int count : new int[] {0, 4, 50}) {
            for (int term : around(count)) {
                due("work " + term + " of " + count, first(!below(term, count), INDEX, term == 3, ARITHMETIC),
                        () -> new Machine(1, 6, count, 0).typed(3), x -> x.work(term));
            }
        }
        refused("work an error", ARITHMETIC, () -> small().typed(60), x -> x.work(3));
        refused("work an error again", ARITHMETIC, () -> small().typed(60).run().matched(), x -> x.work(3));
    }

    private static void means() {
        Maker empty = () -> {
            Machine machine = small();
            machine.x.set(0);
            machine.x.set(25);
            return machine;
        };
        refused("mean of nothing", ARITHMETIC, empty, SnowbolFold::meanSize);
        due("mean of one", null, RefusedTest::small, SnowbolFold::meanSize);
    }
}
