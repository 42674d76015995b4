import java.util.LinkedHashMap;
import java.util.Map;
import java.util.Set;
import java.util.TreeSet;

/**
 * What each call leaves as it was. Two objects are made alike, one of them gets a call more, then all that an object
 * tells is read out of both: only what the document says that the call changes may differ.
 */
public final class KeepsTest {
    private static final Check CHECK = new Check("KeepsTest");

    private interface Call {
        Object on(SnowbolFold x);
    }

    private static Object answer(Call call, SnowbolFold x) {
        try {
            return call.on(x);
        } catch (RuntimeException e) {
            return e.getClass();
        }
    }

    public static void main(String[] args) {
        for (int state = 0; state < 4; state++) {
            values(state);
            making(state);
            running(state);
            matching(state);
            telling(state);
        }
        lastRunAndLastMatch();
        CHECK.finish();
    }

    /**
     * An object with all kinds of things in it. Its states: 0 nothing was run or matched, 1 a run that ended in a
     * function and a match, 2 a run that was an error and a match that failed, 3 a run cut off, anchored.
     */
    private static SnowbolFold machine(int state) {
        SnowbolFold x = new SnowbolFold();
        Check.text(x, "ab");
        Check.text(x, "");
        x.pattern('l', 0, 0);
        x.pattern('*', 0, 0);
        x.pattern('$', 1, 2);
        x.pattern('.', 2, 3);
        x.pattern('i', 0, 0);
        x.pattern('&', 2, 4);
        x.term('t', 0, 0);
        x.term('v', 0, 0);
        x.term('=', 0, 1);
        x.term('+', 0, 0);
        x.assign(1, 0, -1, -1);
        x.scan(4, 3, 0, -1, -1);
        x.call(5, 0, 1, -4, -4);
        x.assign(1, 2, 0, 3);
        x.assign(1, 3, -4, -4);
        x.define(0, 5, 20, 21, 22);
        x.assign(22, 0, -4, -4);
        for (char variable : "abez".toCharArray()) {
            Check.give(x, variable, variable + "1" + variable);
        }
        Check.type(x, "xyab");
        if (state == 1) {
            x.run(0, 9);
            x.match(0);
        }
        if (state == 2) {
            x.run(4, 9);
            x.match(4);
        }
        if (state == 3) {
            x.anchor(true);
            x.run(3, 7);
            x.match(3);
        }
        return x;
    }

    /** All that an object tells; it is used up by that. */
    private static Map<String, Object> readOut(SnowbolFold x) {
        Map<String, Object> all = new LinkedHashMap<>();
        all.put("sound", x.isSound());
        all.put("typed", Check.typed(x));
        for (char variable = 'a'; variable <= 'z'; variable++) {
            all.put("" + variable, Check.value(x, variable));
        }
        all.put("statements", x.statements());
        StringBuilder run = new StringBuilder();
        run.append(answer(SnowbolFold::error, x)).append(answer(SnowbolFold::last, x));
        run.append(answer(SnowbolFold::steps, x)).append(answer(SnowbolFold::depth, x));
        run.append(answer(SnowbolFold::failShare, x));
        for (int statement = 0; statement < 6; statement++) {
            int number = statement;
            run.append(answer(y -> y.done(number), x)).append('/').append(answer(y -> y.failed(number), x));
        }
        all.put("run", run.toString());
        all.put("match", "" + answer(SnowbolFold::from, x) + answer(SnowbolFold::to, x)
                + answer(SnowbolFold::begun, x));
        readAnchor(x, all);
        readTexts(x, all);
        readPatterns(x, all);
        readTerms(x, all);
        readStatements(x, all);
        return all;
    }

    private static void readAnchor(SnowbolFold x, Map<String, Object> all) {
        all.put("anchor", x.anchor(false));
        for (char variable = 'a'; variable <= 'z'; variable++) {
            Check.give(x, variable, "v" + variable);
        }
    }

    private static void readTexts(SnowbolFold x, Map<String, Object> all) {
        StringBuilder texts = new StringBuilder();
        for (int text = 0; text < 2; text++) {
            int term = x.term('t', text, 0);
            x.work(term);
            texts.append(Check.typed(x)).append('/');
        }
        x.wipe();
        all.put("texts", texts.append(x.text()).toString());
    }

    private static void readPatterns(SnowbolFold x, Map<String, Object> all) {
        StringBuilder patterns = new StringBuilder();
        for (int pattern = 0; pattern < 6; pattern++) {
            patterns.append(Check.ways(x, pattern, "cab")).append('/');
        }
        all.put("patterns", patterns.append(x.pattern('m', 0, 0)).toString());
    }

    private static void readTerms(SnowbolFold x, Map<String, Object> all) {
        StringBuilder terms = new StringBuilder();
        for (int term = 0; term < 4; term++) {
            int number = term;
            terms.append(answer(y -> y.work(number), x)).append(Check.typed(x)).append('/');
        }
        all.put("terms", terms.append(x.term('v', 0, 0)).toString());
    }

    private static void readStatements(SnowbolFold x, Map<String, Object> all) {
        StringBuilder did = new StringBuilder();
        for (int statement = 0; statement < 6; statement++) {
            did.append(x.run(statement, 5)).append(x.checksum()).append('/').append(x.last());
        }
        all.put("behaviour", did.toString());
        StringBuilder told = new StringBuilder();
        for (int function = 0; function < 5; function++) {
            told.append(x.define(function, 0, 0, 1, 2));
        }
        all.put("functions", told.toString());
    }

    /** The call answers so, and changes just these parts, named with blanks between; a '?' may be changed or not. */
    private static void changes(int state, String what, Object want, String parts, Call call) {
        SnowbolFold left = machine(state);
        SnowbolFold right = machine(state);
        String name = what + " in state " + state;
        Object got = answer(call, right);
        if (want != null) {
            CHECK.due(name, got, want);
        }
        Map<String, Object> before = readOut(left);
        Map<String, Object> behind = readOut(right);
        CHECK.due("sound behind " + name, behind.get("sound"), true);
        Set<String> changed = new TreeSet<>();
        for (String part : before.keySet()) {
            if (!before.get(part).equals(behind.get(part))) {
                changed.add(part);
            }
        }
        Set<String> due = new TreeSet<>();
        for (String part : parts.split(" ")) {
            boolean free = part.startsWith("?");
            String bare = free ? part.substring(1) : part;
            if (!part.isEmpty() && (!free || changed.contains(bare))) {
                due.add(bare);
            }
        }
        CHECK.due("changed by " + name, changed, due);
    }

    private static void values(int state) {
        changes(state, "type", 5, "typed", x -> x.type('q'));
        changes(state, "type no sign", IllegalArgumentException.class, "", x -> x.type(31));
        changes(state, "wipe", 4, "typed", SnowbolFold::wipe);
        changes(state, "text", 2, "typed texts", SnowbolFold::text);
        changes(state, "set", 3, "typed z", x -> x.set(25));
        changes(state, "size", 3, "", x -> x.size(0));
        changes(state, "at", (int) 'a', "", x -> x.at(0, 2));
        changes(state, "typed", (int) 'y', "", x -> x.typed(1));
        changes(state, "meanSize", null, "", SnowbolFold::meanSize);
        changes(state, "checksum", null, "", SnowbolFold::checksum);
        changes(state, "isSound", true, "", SnowbolFold::isSound);
    }

    private static void making(int state) {
        changes(state, "pattern", 6, "patterns", x -> x.pattern('x', 0, 0));
        changes(state, "term", 4, "terms", x -> x.term('r', 1, 0));
        changes(state, "assign", 6, "statements ?run", x -> x.assign(0, 0, -4, -4));
        changes(state, "scan", 6, "statements ?run", x -> x.scan(0, 0, -1, -4, -4));
        changes(state, "call", 6, "statements ?run", x -> x.call(0, 0, 0, -4, -4));
        changes(state, "define a new one", false, "functions", x -> x.define(4, 0, 0, 1, 2));
        changes(state, "define it as it is", true, "", x -> x.define(0, 5, 20, 21, 22));
        changes(state, "anchor", state == 3, state == 3 ? "" : "anchor", x -> x.anchor(true));
        changes(state, "anchor off", state == 3, state == 3 ? "anchor" : "", x -> x.anchor(false));
        changes(state, "statements", 6, "", SnowbolFold::statements);
    }

    private static void running(int state) {
        changes(state, "an assignment", 'l', "?b run", x -> x.run(0, 1));
        changes(state, "an assignment that fails", 'l', "run", x -> x.run(3, 1));
        changes(state, "an assignment that is an error", 'x', "?run", x -> x.run(4, 1));
        changes(state, "a scan", 'l', "run ?c ?d ?e", x -> x.run(1, 1));
        changes(state, "a call", 'l', "run ?t ?u ?v ?w", x -> x.run(2, 1));
        changes(state, "in a function", 'd', "run ?w", x -> x.run(5, 1));
        changes(state, "a run refused", IllegalArgumentException.class, "", x -> x.run(0, 0));
    }

    private static void matching(int state) {
        changes(state, "match", true, "?match ?c ?d", x -> x.match(3));
        changes(state, "match without assignments", state != 3, "?match", x -> x.match(0));
        changes(state, "match that fails", false, "?match ?c", x -> x.match(5));
        changes(state, "ways", state == 3 ? 5 : 15, "?c", x -> x.ways(3));
        changes(state, "ways without assignments", state == 3 ? 0 : 1, "", x -> x.ways(0));
        changes(state, "way", 1, "?c", x -> x.way(3, 1));
        changes(state, "no way", java.util.NoSuchElementException.class, "", x -> x.way(3, 99));
        changes(state, "work", true, "typed", x -> x.work(0));
        changes(state, "work that fails", false, "", x -> x.work(2));
        changes(state, "work that is an error", ArithmeticException.class, "", x -> x.work(3));
    }

    private static void telling(int state) {
        changes(state, "error", null, "", SnowbolFold::error);
        changes(state, "last", null, "", SnowbolFold::last);
        changes(state, "steps", null, "", SnowbolFold::steps);
        changes(state, "done", null, "", x -> x.done(0));
        changes(state, "failed", null, "", x -> x.failed(0));
        changes(state, "depth", null, "", SnowbolFold::depth);
        changes(state, "failShare", null, "", SnowbolFold::failShare);
        changes(state, "from", null, "", SnowbolFold::from);
        changes(state, "to", null, "", SnowbolFold::to);
        changes(state, "begun", null, "", SnowbolFold::begun);
    }

    /** What is told of the last run and of the last match is told again and again, whatever is made behind them. */
    private static void lastRunAndLastMatch() {
        SnowbolFold x = machine(2);
        x.match(3);
        for (int time = 0; time < 5; time++) {
            CHECK.due("error", x.error(), 1);
            CHECK.due("last", x.last(), 4);
            CHECK.due("steps", x.steps(), 1);
            CHECK.due("done", x.done(4), 1);
            CHECK.due("share", x.failShare(), 0f);
            CHECK.due("from", x.from(), 0);
            CHECK.due("to", x.to(), 0);
            CHECK.due("begun", x.begun(), 3);
            Check.text(x, "more");
            x.pattern('m', 0, 0);
            x.term('v', 0, 0);
            x.assign(0, 0, -4, -4);
            x.define(time, 0, 0, 1, 2);
            x.anchor(time % 2 == 0);
            x.ways(0);
            x.work(0);
            x.set(0);
        }
        CHECK.due("sound", x.isSound(), true);
    }
}
