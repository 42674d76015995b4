import java.util.ArrayList;
import java.util.Arrays;
import java.util.List;
import java.util.NoSuchElementException;
import java.util.TreeSet;

/**
 * The document told a second time, by other means (strings, recursion, continuations), so that the class can
 * be compared with it over random runs. A sign is one char here: the high ones are kept from 0xE000 on.
 */
public final class Oracle {
    private static final class TooMany extends RuntimeException {
        private static final long serialVersionUID = 1;
    }

    private static final class Abort extends RuntimeException {
        private static final long serialVersionUID = 1;
    }

    /** A term that fails has number 0. */
    private static final class Bad extends RuntimeException {
        private static final long serialVersionUID = 1;
        final int number;

        Bad(int number) {
            this.number = number;
        }
    }

    private interface Then {
        boolean go(int cursor, Taken taken);
    }

    private static final class Taken {
        final Taken before;
        final int variable;
        final String value;

        Taken(Taken before, int variable, String value) {
            this.before = before;
            this.variable = variable;
            this.value = value;
        }
    }

    private static final class Entry {
        final char kind;
        final int[] n;

        Entry(char kind, int... n) {
            this.kind = kind;
            this.n = n;
        }
    }

    private static final class Frame {
        final int statement;
        final Entry function;
        final String[] saved;

        Frame(int statement, Entry function, String[] saved) {
            this.statement = statement;
            this.function = function;
            this.saved = saved;
        }
    }

    private String typed = "";
    private final List<String> texts = new ArrayList<>();
    private String[] vars = new String[26];
    private final List<Entry> patterns = new ArrayList<>();
    private final List<Entry> terms = new ArrayList<>();
    private final List<Entry> statements = new ArrayList<>();
    private final Entry[] functions = new Entry[5];
    private boolean anchored;

    private boolean everRun;
    private int error;
    private int last;
    private int steps;
    private int[] done = new int[40];
    private int[] failed = new int[40];
    private final ArrayList<Frame> frames = new ArrayList<>();

    private int lastMatch = -2;
    private int lastBegun;

    private String subject;
    private int begun;

    public Oracle() {
        Arrays.fill(vars, "");
    }

    private static char in(int sign) {
        return (char) (sign > 126 ? sign - 128512 + 0xE000 : sign);
    }

    private static int out(char sign) {
        return sign > 126 ? sign - 0xE000 + 128512 : sign;
    }

    private static void need(boolean holds) {
        if (!holds) {
            throw new IndexOutOfBoundsException();
        }
    }

    private static void range(boolean holds) {
        if (!holds) {
            throw new IllegalArgumentException();
        }
    }

    private static void state(boolean holds) {
        if (!holds) {
            throw new IllegalStateException();
        }
    }

    private static void element(boolean holds) {
        if (!holds) {
            throw new NoSuchElementException();
        }
    }

    private static boolean among(int i, int n) {
        return 0 <= i && i < n;
    }

    public int type(int sign) {
        range(among(sign - 32, 95) || among(sign - 128512, 80));
        state(typed.length() < 60);
        typed += in(sign);
        return typed.length();
    }

    public int wipe() {
        int n = typed.length();
        typed = "";
        return n;
    }

    public int text() {
        if (typed.length() > 20) {
            throw new UnsupportedOperationException();
        }
        state(texts.size() < 30);
        texts.add(typed);
        typed = "";
        return texts.size() - 1;
    }

    public int set(int variable) {
        need(among(variable, 26));
        int n = vars[variable].length();
        vars[variable] = typed;
        typed = "";
        return n;
    }

    public int size(int variable) {
        need(among(variable, 26));
        return vars[variable].length();
    }

    public int at(int variable, int place) {
        need(among(variable, 26));
        element(among(place, vars[variable].length()));
        return out(vars[variable].charAt(place));
    }

    public int pattern(char kind, int a, int b) {
        String kinds = "l|&nosk#trpqm*gxfzi$.@v";
        range(kinds.indexOf(kind) >= 0);
        if ("lnosk".indexOf(kind) >= 0) {
            need(among(a, texts.size()));
        } else if ("|&g$.".indexOf(kind) >= 0) {
            need(among(a, patterns.size()));
            need(kind == 'g' || among(b, "|&".indexOf(kind) >= 0 ? patterns.size() : 26));
        } else if ("@v".indexOf(kind) >= 0) {
            need(among(a, 26));
        } else if ("#trpq".indexOf(kind) >= 0) {
            need(among(a, 61));
        }
        state(patterns.size() < 50);
        patterns.add(new Entry(kind, a, b));
        return patterns.size() - 1;
    }

    public int term(char kind, int a, int b) {
        range("tvw+-*/&#rd=<".indexOf(kind) >= 0);
        need(among(a, kind == 't' ? texts.size() : kind == 'v' ? 26 : terms.size()));
        need("tvw#r".indexOf(kind) >= 0 || among(b, terms.size()));
        state(terms.size() < 50);
        terms.add(new Entry(kind, a, b));
        return terms.size() - 1;
    }

    private int add(Entry e) {
        range(among(e.n[3] + 4, 44) && among(e.n[4] + 4, 44));
        state(statements.size() < 40);
        statements.add(e);
        return statements.size() - 1;
    }

    public int assign(int variable, int term, int yes, int no) {
        need(among(variable, 26) && among(term, terms.size()));
        return add(new Entry('a', variable, 0, term, yes, no));
    }

    public int scan(int variable, int pattern, int term, int yes, int no) {
        need(among(variable, 26) && among(pattern, patterns.size()));
        need(term == -1 || among(term, terms.size()));
        return add(new Entry('s', variable, pattern, term, yes, no));
    }

    public int call(int variable, int function, int term, int yes, int no) {
        need(among(variable, 26) && among(term, terms.size()));
        range(among(function, 5));
        return add(new Entry('c', variable, function, term, yes, no));
    }

    public boolean define(int function, int entry, int parameter, int local, int result) {
        range(among(function, 5) && among(entry, 40));
        range(parameter != local && parameter != result && local != result);
        need(among(parameter, 26) && among(local, 26) && among(result, 26));
        boolean told = functions[function] != null;
        functions[function] = new Entry('f', entry, parameter, local, result);
        return told;
    }

    public boolean anchor(boolean is) {
        boolean was = anchored;
        anchored = is;
        return was;
    }

    // ---- matches

    private boolean m(int p, int c, Taken t, Then k) {
        if (begun == 3000) {
            throw new TooMany();
        }
        begun++;
        Entry e = patterns.get(p);
        int a = e.n[0];
        int b = e.n[1];
        int left = subject.length() - c;
        String rest = subject.substring(c);
        switch (e.kind) {
            case 'l': return rest.startsWith(texts.get(a)) && k.go(c + texts.get(a).length(), t);
            case 'v': {
                String value = vars[a];
                return rest.startsWith(value) && k.go(c + value.length(), t);
            }
            case '|': return m(a, c, t, k) || m(b, c, t, k);
            case '&': return m(a, c, t, (d, u) -> m(b, d, u, k));
            case 'n': return left > 0 && texts.get(a).indexOf(rest.charAt(0)) >= 0 && k.go(c + 1, t);
            case 'o': return left > 0 && texts.get(a).indexOf(rest.charAt(0)) < 0 && k.go(c + 1, t);
            case 's': {
                int n = 0;
                while (n < left && texts.get(a).indexOf(rest.charAt(n)) >= 0) {
                    n++;
                }
                return n > 0 && k.go(c + n, t);
            }
            case 'k':
                for (int n = 0; n < left; n++) {
                    if (texts.get(a).indexOf(rest.charAt(n)) >= 0) {
                        return k.go(c + n, t);
                    }
                }
                return false;
            case '#': return a <= left && k.go(c + a, t);
            case 't': return a >= c && a <= subject.length() && k.go(a, t);
            case 'r': return a <= left && k.go(subject.length() - a, t);
            case 'p': return a == c && k.go(c, t);
            case 'q': return a == left && k.go(c, t);
            case 'm': return k.go(subject.length(), t);
            case '*':
                for (int d = c; d <= subject.length(); d++) {
                    if (k.go(d, t)) {
                        return true;
                    }
                }
                return false;
            case 'g': return more(a, c, t, k);
            case 'x':
                for (int d = c + 1; d <= subject.length(); d++) {
                    if (balanced(subject.substring(c, d)) && k.go(d, t)) {
                        return true;
                    }
                }
                return false;
            case 'f':
                if (k.go(c, t)) {
                    return true;
                }
                throw new Abort();
            case 'z': throw new Abort();
            case 'i': return false;
            case '$':
                return m(a, c, t, (d, u) -> {
                    vars[b] = subject.substring(c, d);
                    return k.go(d, u);
                });
            case '.': return m(a, c, t, (d, u) -> k.go(d, new Taken(u, b, subject.substring(c, d))));
            case '@':
                vars[a] = "" + c;
                return k.go(c, t);
            default: throw new AssertionError();
        }
    }

    private boolean more(int a, int c, Taken t, Then k) {
        return k.go(c, t) || m(a, c, t, (d, u) -> d > c && more(a, d, u, k));
    }

    private static boolean balanced(String s) {
        int open = 0;
        for (char sign : s.toCharArray()) {
            open += sign == '(' ? 1 : sign == ')' ? -1 : 0;
            if (open < 0) {
                return false;
            }
        }
        return open == 0;
    }

    /** Answers 100 times the beginning plus the end of the first way at which the taker says so, or -1. */
    private int seek(int p, String over, Then taker) {
        subject = over;
        begun = 0;
        int[] where = {-1};
        try {
            for (int start = 0; start <= (anchored ? 0 : over.length()); start++) {
                int s = start;
                if (m(p, start, null, (d, u) -> {
                    where[0] = 100 * s + d;
                    return taker.go(where[0], u);
                })) {
                    return where[0];
                }
            }
        } catch (Abort e) {
            return -1;
        }
        return -1;
    }

    private int first(int p, String over) {
        Taken[] all = new Taken[1];
        int where = seek(p, over, (d, u) -> {
            all[0] = u;
            return true;
        });
        if (where >= 0) {
            ArrayList<Taken> order = new ArrayList<>();
            for (Taken t = all[0]; t != null; t = t.before) {
                order.add(0, t);
            }
            for (Taken t : order) {
                vars[t.variable] = t.value;
            }
        }
        return where;
    }

    public boolean match(int pattern) {
        need(among(pattern, patterns.size()));
        String[] before = vars.clone();
        try {
            lastMatch = first(pattern, typed);
            lastBegun = begun;
        } catch (TooMany e) {
            vars = before;
            throw new ArithmeticException();
        }
        return lastMatch >= 0;
    }

    public int from() {
        state(lastMatch > -2);
        element(lastMatch >= 0);
        return lastMatch / 100;
    }

    public int to() {
        state(lastMatch > -2);
        element(lastMatch >= 0);
        return lastMatch % 100;
    }

    public int begun() {
        state(lastMatch > -2);
        return lastBegun;
    }

    private List<Integer> all(int pattern) {
        need(among(pattern, patterns.size()));
        List<Integer> found = new ArrayList<>();
        String[] before = vars.clone();
        try {
            seek(pattern, typed, (d, u) -> {
                found.add(d);
                return found.size() == 200;
            });
        } catch (TooMany e) {
            vars = before;
            throw new ArithmeticException();
        }
        return found;
    }

    public int ways(int pattern) {
        return all(pattern).size();
    }

    public int way(int pattern, int index) {
        String[] before = vars.clone();
        List<Integer> found = all(pattern);
        if (!among(index, found.size())) {
            vars = before;
            throw new NoSuchElementException();
        }
        return found.get(index);
    }

    // ---- terms

    private static long number(String s) {
        if (!s.matches("-?[0-9]{1,9}")) {
            throw new Bad(1);
        }
        return Long.parseLong(s);
    }

    private static String written(long n) {
        if (Math.abs(n) > 999999999) {
            throw new Bad(1);
        }
        return Long.toString(n);
    }

    private static String fitting(String s) {
        if (s.length() > 60) {
            throw new Bad(4);
        }
        return s;
    }

    private static String test(boolean holds) {
        if (!holds) {
            throw new Bad(0);
        }
        return "";
    }

    private void gather(int term, TreeSet<Integer> all) {
        if (all.add(term)) {
            Entry e = terms.get(term);
            if ("tv".indexOf(e.kind) < 0) {
                gather(e.n[0], all);
                if ("w#r".indexOf(e.kind) < 0) {
                    gather(e.n[1], all);
                }
            }
        }
    }

    private String value(int term) {
        TreeSet<Integer> all = new TreeSet<>();
        gather(term, all);
        String[] v = new String[50];
        for (int i : all) {
            v[i] = one(terms.get(i), v);
        }
        return v[term];
    }

    private String one(Entry e, String[] v) {
        int a = e.n[0];
        int b = e.n[1];
        switch (e.kind) {
            case 't': return texts.get(a);
            case 'v': return vars[a];
            case 'w':
                if (!v[a].matches("[a-z]")) {
                    throw new Bad(8);
                }
                return vars[v[a].charAt(0) - 'a'];
            case '+': return written(number(v[a]) + number(v[b]));
            case '-': return written(number(v[a]) - number(v[b]));
            case '*': return written(number(v[a]) * number(v[b]));
            case '/': {
                long x = number(v[a]);
                long y = number(v[b]);
                if (y == 0) {
                    throw new Bad(2);
                }
                return written(x / y);
            }
            case '&': return fitting(v[a] + v[b]);
            case '#': return written(v[a].length());
            case 'r': return new StringBuilder(v[a]).reverse().toString();
            case 'd': {
                long n = number(v[b]);
                if (n < 0 || n > 60) {
                    throw new Bad(1);
                }
                return fitting(v[a].repeat((int) n));
            }
            case '=': return test(v[a].equals(v[b]));
            default: return test(number(v[a]) < number(v[b]));
        }
    }

    public boolean work(int term) {
        need(among(term, terms.size()));
        try {
            typed = value(term);
            return true;
        } catch (Bad e) {
            if (e.number > 0) {
                throw new ArithmeticException();
            }
            return false;
        }
    }

    public int typed(int place) {
        element(among(place, typed.length()));
        return out(typed.charAt(place));
    }

    // ---- runs

    public char run(int first, int most) {
        range(most >= 1 && most <= 1000);
        need(among(first, statements.size()));
        everRun = true;
        error = 0;
        steps = 0;
        done = new int[40];
        failed = new int[40];
        frames.clear();
        int at = first;
        try {
            while (at >= 0) {
                if (at >= statements.size()) {
                    throw new Bad(7);
                }
                if (steps == most) {
                    return 'l';
                }
                at = perform(at);
            }
            return 'd';
        } catch (Bad e) {
            error = e.number;
            return 'x';
        }
    }

    private int perform(int s) {
        last = s;
        steps++;
        done[s]++;
        Entry e = statements.get(s);
        boolean yes = true;
        try {
            if (e.kind == 'a') {
                vars[e.n[0]] = value(e.n[2]);
            } else if (e.kind == 's') {
                yes = scanned(e);
            } else {
                String v = value(e.n[2]);
                Entry f = functions[e.n[1]];
                if (f == null || frames.size() == 10) {
                    throw new Bad(5);
                }
                frames.add(new Frame(s, f, vars.clone()));
                vars[f.n[2]] = "";
                vars[f.n[3]] = "";
                vars[f.n[1]] = v;
                return f.n[0];
            }
        } catch (Bad bad) {
            if (bad.number > 0) {
                throw bad;
            }
            yes = false;
        } catch (TooMany many) {
            throw new Bad(3);
        }
        return after(s, yes);
    }

    private boolean scanned(Entry e) {
        String over = vars[e.n[0]];
        int where = first(e.n[1], over);
        if (where < 0) {
            return false;
        }
        if (e.n[2] >= 0) {
            String v = value(e.n[2]);
            vars[e.n[0]] = fitting(over.substring(0, where / 100) + v + over.substring(where % 100));
        }
        return true;
    }

    private int after(int s, boolean yes) {
        if (!yes) {
            failed[s]++;
        }
        int way = statements.get(s).n[yes ? 3 : 4];
        if (way >= 0) {
            return way;
        }
        if (way == -1) {
            return s + 1 < statements.size() ? s + 1 : -1;
        }
        if (way == -4) {
            return -1;
        }
        if (frames.isEmpty()) {
            throw new Bad(6);
        }
        Frame f = frames.remove(frames.size() - 1);
        String result = vars[f.function.n[3]];
        for (int i = 1; i <= 3; i++) {
            vars[f.function.n[i]] = f.saved[f.function.n[i]];
        }
        if (way == -2) {
            vars[statements.get(f.statement).n[0]] = result;
        }
        return after(f.statement, way == -2);
    }

    public int error() {
        state(everRun);
        element(error != 0);
        return error;
    }

    public int last() {
        state(everRun);
        return last;
    }

    public int steps() {
        state(everRun);
        return steps;
    }

    public int done(int statement) {
        state(everRun);
        need(among(statement, statements.size()));
        return done[statement];
    }

    public int failed(int statement) {
        state(everRun);
        need(among(statement, statements.size()));
        return failed[statement];
    }

    public int depth() {
        state(everRun);
        return frames.size();
    }

    public int statements() {
        return statements.size();
    }

    public float failShare() {
        state(everRun);
        return (float) Arrays.stream(failed).sum() / (float) steps;
    }

    public double meanSize() {
        double sum = 0;
        double n = 0;
        for (String v : vars) {
            sum += v.length();
            n += v.isEmpty() ? 0 : 1;
        }
        if (n == 0) {
            throw new ArithmeticException();
        }
        return sum / n;
    }

    public long checksum() {
        long sum = 7;
        for (String v : vars) {
            for (char c : v.toCharArray()) {
                sum = sum * 31 + out(c);
            }
            sum = sum * 31 + v.length();
        }
        return sum;
    }

    public boolean isSound() {
        return true;
    }
}
