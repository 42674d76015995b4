/** What all tests share: comparing answers, and short ways to make values. */
final class Check {
    interface Act {
        Object act();
    }

    private final String name;
    private int checks;
    private int wrong;

    Check(String name) {
        this.name = name;
    }

    void due(String what, Object got, Object want) {
        checks++;
        if (!want.equals(got)) {
            wrong++;
            System.out.println(name + ": " + what + " answered " + got + ", due is " + want);
        }
    }

    void dueThrow(String what, Class<? extends RuntimeException> want, Act act) {
        Object got;
        try {
            got = act.act();
        } catch (RuntimeException e) {
            got = e.getClass();
        }
        due(what, got, want);
    }

    void finish() {
        System.out.println(name + ": " + checks + " checks, " + wrong + " wrong");
        if (wrong != 0) {
            System.exit(1);
        }
    }

    /** Types signs in the place of what is typed. */
    static void type(SnowbolFold x, String signs) {
        x.wipe();
        signs.codePoints().forEach(x::type);
    }

    static int text(SnowbolFold x, String signs) {
        type(x, signs);
        return x.text();
    }

    static void give(SnowbolFold x, char variable, String signs) {
        type(x, signs);
        x.set(variable - 'a');
    }

    static String value(SnowbolFold x, char variable) {
        StringBuilder signs = new StringBuilder();
        for (int place = 0; place < x.size(variable - 'a'); place++) {
            signs.appendCodePoint(x.at(variable - 'a', place));
        }
        return signs.toString();
    }

    static String typed(SnowbolFold x) {
        StringBuilder signs = new StringBuilder();
        try {
            for (int place = 0; place < 60; place++) {
                signs.appendCodePoint(x.typed(place));
            }
        } catch (java.util.NoSuchElementException e) {
            return signs.toString();
        }
        return signs.toString();
    }

    /** All ways of a pattern over some signs, such as "0-1 1-1". */
    static String ways(SnowbolFold x, int pattern, String signs) {
        type(x, signs);
        StringBuilder all = new StringBuilder();
        int count = x.ways(pattern);
        for (int index = 0; index < count; index++) {
            int way = x.way(pattern, index);
            all.append(index == 0 ? "" : " ").append(way / 100).append('-').append(way % 100);
        }
        return all.toString();
    }
}
