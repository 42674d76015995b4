import java.lang.reflect.InvocationTargetException;
import java.lang.reflect.Method;
import java.util.HashMap;
import java.util.Map;

/** Compares the class with the oracle over many runs of calls, the same ones each time. */
public final class OracleTest {
    private static final String[] TYPED = {"ab", "abc()", "019-", "(()", "n a", "()[\uD83D\uDE00"};
    private static final Map<String, Method> REAL = new HashMap<>();
    private static final Map<String, Method> TOLD = new HashMap<>();
    private static final Map<String, Integer> SEEN = new HashMap<>();

    private long seed;
    private final StringBuilder log = new StringBuilder();
    private final SnowbolFold real = new SnowbolFold();
    private final Oracle told = new Oracle();
    private int calls;
    private int texts;
    private int patterns;
    private int terms;
    private int statements;
    private boolean same = true;
    /** 0 all mixed, 1 dear matches, 2 calls of functions, 3 numbers. */
    private final int leaning;

    private OracleTest(long seed) {
        leaning = (int) (seed % 4);
        this.seed = seed * 2654435761L + 12345;
    }

    private int below(int count) {
        seed = seed * 6364136223846793005L + 1442695040888963407L;
        return (int) Long.remainderUnsigned(seed >>> 20, count);
    }

    private boolean often(int percent) {
        return below(100) < percent;
    }

    private Object answer(Method method, Object target, Object[] arguments) {
        try {
            return method.invoke(target, arguments);
        } catch (InvocationTargetException e) {
            Throwable cause = e.getCause();
            return cause instanceof StackOverflowError ? cause : cause.getClass().getSimpleName();
        } catch (IllegalAccessException e) {
            return e;
        }
    }

    private Object both(String name, Object... arguments) {
        if (calls >= 512 || !same) {
            return null;
        }
        calls++;
        Object want = answer(TOLD.get(name), told, arguments);
        Object got = answer(REAL.get(name), real, arguments);
        log.append(name).append(java.util.Arrays.toString(arguments)).append(" -> ").append(got).append('\n');
        SEEN.merge(name + " " + (want instanceof String ? want : want instanceof Character ? want : ""), 1,
                Integer::sum);
        if ("error".equals(name) && want instanceof Integer) {
            SEEN.merge("error number " + want, 1, Integer::sum);
        }
        if (!want.equals(got)) {
            same = false;
            System.out.println(log + "due is " + want);
        }
        return got;
    }

    private int made(Object answer, int before) {
        return answer instanceof Integer ? (Integer) answer + 1 : before;
    }

    private int variable() {
        return often(2) ? below(30) - 2 : often(85) ? below(5) : often(50) ? 13 : below(26);
    }

    private int anyPattern() {
        return leaning == 1 && often(50) ? below(14) : part(patterns);
    }

    private int part(int count) {
        return often(3) || count == 0 ? below(count + 4) - 2 : often(60) ? count - 1 - below(Math.min(count, 6))
                : below(count);
    }

    private void typeSome() {
        if (often(80)) {
            both("wipe");
        }
        String signs = leaning == 3 && often(80) ? "0123456789" : TYPED[below(leaning == 1 ? 2 : TYPED.length)];
        int count = often(leaning == 1 ? 40 : 70) ? 1 + below(6) : leaning == 1 && often(70) ? 62 : below(22);
        for (int i = 0; i < count; i++) {
            int place = below(signs.codePointCount(0, signs.length()));
            both("type", signs.codePointAt(signs.offsetByCodePoints(0, place)));
        }
        if (often(3)) {
            both("type", below(200));
        }
    }

    private void makePattern() {
        String all = "l|&nosk#trpqm*gxfzi$.@v";
        String kinds = often(50) ? "|&g$.&|" : often(30) ? "l*xvnosk@" : all;
        if (leaning == 1 && often(85)) {
            kinds = often(50) ? "&&&g||" : "*xno*#f$...iq";
        }
        char kind = often(1) ? (char) below(300) : kinds.charAt(below(kinds.length()));
        int a;
        int b = often(2) ? below(60) - 4 : variable();
        if ("|&g$.".indexOf(kind) >= 0) {
            a = part(patterns);
            b = "|&".indexOf(kind) >= 0 ? part(patterns) : b;
        } else if ("lnosk".indexOf(kind) >= 0) {
            a = part(texts);
        } else {
            a = "@v".indexOf(kind) >= 0 ? variable() : often(90) ? below(5) : below(64) - 1;
        }
        patterns = made(both("pattern", kind, a, b), patterns);
    }

    private void makeTerm() {
        String kinds = leaning == 3 ? "tvvv+-*/&#d<" : leaning == 0 ? "tvvw+-*/&#rd=<" : "ttvvvv&#r=";
        char kind = often(1) ? (char) below(300) : kinds.charAt(below(kinds.length()));
        int a = kind == 't' ? part(texts) : kind == 'v' ? variable() : part(terms);
        terms = made(both("term", kind, a, part(terms)), terms);
    }

    private int way() {
        if (leaning == 2 && statements > 6) {
            return often(90) ? -2 - below(2) : below(statements);
        }
        return often(1) ? below(50) - 7 : often(60) ? below(4) - 4 : often(95) ? below(statements + 2) : below(40);
    }

    private void makeStatement() {
        int kind = below(3);
        Object answer;
        if (kind == 0) {
            answer = both("assign", variable(), part(terms), way(), way());
        } else if (kind == 1) {
            answer = both("scan", variable(), anyPattern(), often(50) ? -1 : part(terms), way(), way());
        } else {
            answer = both("call", variable(), often(2) ? below(8) - 1 : below(3), part(terms), way(), way());
        }
        statements = made(answer, statements);
    }

    private void runSome() {
        if (often(5)) {
            both("run", below(45) - 2, below(1100) - 50);
        }
        both("run", part(statements), often(60) ? 1 + below(30) : 1 + below(1000));
        both("error");
        both("last");
        both("steps");
        both("depth");
        both("failShare");
        both("done", part(statements));
        both("failed", part(statements));
        both("failed", part(statements));
    }

    private void matchSome() {
        if (often(50)) {
            both("match", anyPattern());
            both("from");
            both("to");
            both("begun");
        } else if (often(50)) {
            both("ways", anyPattern());
        } else {
            both("way", anyPattern(), below(12) - 1);
        }
    }

    private void lookAround() {
        both("checksum");
        switch (below(8)) {
            case 0:
                both("meanSize");
                break;
            case 1:
                both("size", variable());
                break;
            case 2:
                both("at", variable(), below(5) - 1);
                break;
            case 3:
                both("typed", below(8) - 1);
                break;
            case 4:
                both("statements");
                break;
            case 5:
                both("anchor", often(30));
                break;
            case 6:
                both("define", often(2) ? below(8) - 2 : below(3), often(2) ? below(60) - 9 : below(statements + 1),
                        variable(), variable(), variable());
                break;
            default:
                both("isSound");
        }
    }

    /** What runs of a leaning begin with, so that they come to what they lean to. */
    private void prepare() {
        for (int i = 0; i < 3; i++) {
            typeSome();
            both("set", i);
            typeSome();
            texts = made(both("text"), texts);
        }
        if (leaning == 1) {
            for (char kind : "*gixf".toCharArray()) {
                patterns = made(both("pattern", kind, 0, 0), patterns);
            }
            int[][] parts = {{0, 2}, {0, 5}, {5, 0}, {0, 0}, {8, 2}, {1, 2}, {1, 5}};
            for (int[] two : parts) {
                char kind = often(80) ? '&' : '|';
                patterns = made(both("pattern", kind, two[0], two[1]), patterns);
                patterns = often(30) ? made(both("pattern", '$', patterns - 1, below(5)), patterns) : patterns;
            }
        } else if (leaning == 2) {
            for (int function = 0; function < 3; function++) {
                int first = below(10);
                both("define", function, below(6), first, first + 1 + below(3), first + 4);
                terms = made(both("term", 'v', first, 0), terms);
                terms = made(both("term", 't', function, 0), terms);
            }
        }
    }

    private boolean go() {
        if (often(80)) {
            prepare();
        }
        boolean early = often(70);
        while (calls < 512 && same) {
            int kind = below(100);
            if (kind < 14) {
                typeSome();
                if (often(70)) {
                    both("set", variable());
                } else if (often(80)) {
                    texts = made(both("text"), texts);
                }
            } else if (kind < 35) {
                makePattern();
            } else if (kind < 50) {
                makeTerm();
            } else if (kind < 65) {
                makeStatement();
            } else if (kind < 75) {
                if (!early || calls > 150) {
                    runSome();
                }
            } else if (kind < 85) {
                matchSome();
            } else if (kind < 92) {
                both("work", part(terms));
                both("typed", below(3));
            } else {
                lookAround();
            }
        }
        return same;
    }

    private static void compareAll(int runs, boolean[] fine) {
        for (int run = 0; run < runs && fine[0]; run++) {
            fine[0] = new OracleTest(run).go();
        }
    }

    public static void main(String[] args) throws InterruptedException {
        for (Method method : SnowbolFold.class.getDeclaredMethods()) {
            REAL.put(method.getName(), method);
        }
        for (Method method : Oracle.class.getDeclaredMethods()) {
            TOLD.put(method.getName(), method);
        }
        int runs = args.length > 0 ? Integer.parseInt(args[0]) : 12000;
        boolean[] fine = {true};
        // The oracle is recursive, each pattern begun takes some frames.
        Thread thread = new Thread(null, () -> compareAll(runs, fine), "oracle", 1L << 30);
        thread.start();
        thread.join();
        if (args.length > 1) {
            SEEN.forEach((what, count) -> System.out.println(count + " " + what));
        }
        System.out.println("OracleTest: " + runs + " runs, " + (fine[0] ? "all the same" : "one is not the same"));
        if (!fine[0]) {
            System.exit(1);
        }
    }
}
