import java.io.IOException;
import java.nio.file.Files;
import java.nio.file.Path;
import java.util.Set;
import java.util.TreeSet;

/** The examples of README.md do what is said there; each line of code there stands here too. */
public final class ExamplesTest {
    private static final Check CHECK = new Check("ExamplesTest");

    public static void main(String[] args) throws IOException {
        match();
        run();
        function();
        sameLines();
        CHECK.finish();
    }

    private static void match() {
        SnowbolFold x = new SnowbolFold();
        x.type('a');
        x.type('b');
        int text = x.text();
        int ab = x.pattern('l', text, 0);
        int any = x.pattern('*', 0, 0);
        int both = x.pattern('&', any, ab);
        int named = x.pattern('.', both, 1);
        x.type('x');
        x.type('a');
        x.type('b');
        CHECK.due("match", x.match(named), true);
        CHECK.due("from", x.from(), 0);
        CHECK.due("to", x.to(), 3);
        CHECK.due("size", x.size(1), 3);
        CHECK.due("ways", x.ways(named), 2);
        CHECK.due("way", x.way(named, 1), 103);
        x.match(named);
        x.ways(named);
    }

    private static void run() {
        SnowbolFold x = new SnowbolFold();
        x.type('o');
        int o = x.pattern('l', x.text(), 0);
        x.type('0');
        int zero = x.term('t', x.text(), 0);
        x.scan(0, o, zero, 0, -4);
        x.type('f');
        x.type('o');
        x.type('o');
        x.set(0);
        x.run(0, 100);
        CHECK.due("the value", Check.value(x, 'a'), "f00");
        CHECK.due("steps", x.steps(), 3);
        CHECK.due("failed", x.failed(0), 1);
        CHECK.due("run again", x.run(0, 100), 'd');
    }

    private static void function() {
        SnowbolFold x = new SnowbolFold();
        x.type('1');
        int one = x.term('t', x.text(), 0);
        x.type('2');
        int two = x.term('t', x.text(), 0);
        x.type('5');
        int five = x.term('t', x.text(), 0);
        int n = x.term('v', 13, 0);
        int less = x.term('<', n, two);
        int before = x.term('-', n, one);
        int product = x.term('*', n, x.term('v', 11, 0));
        x.define(0, 1, 13, 11, 17);
        x.call(0, 0, five, -4, -4);
        x.assign(11, less, 2, 3);
        x.assign(17, one, -2, -2);
        x.call(11, 0, before, -1, -3);
        x.assign(17, product, -2, -2);
        x.run(0, 1000);
        CHECK.due("the value", Check.value(x, 'a'), "120");
        CHECK.due("run again", x.run(0, 1000), 'd');
    }

    private static void sameLines() throws IOException {
        Set<String> here = new TreeSet<>();
        for (String line : Files.readAllLines(Path.of("src/test/java/ExamplesTest.java"))) {
            here.add(line.strip());
        }
        boolean inCode = false;
        int lines = 0;
        for (String line : Files.readAllLines(Path.of("README.md"))) {
            if (line.startsWith("```")) {
                inCode = line.equals("```java");
            } else if (inCode) {
                lines++;
                CHECK.due("a line of README.md: " + line, here.contains(line.replaceAll("//.*", "").strip()), true);
            }
        }
        CHECK.due("there are lines of code", lines > 30, true);
    }
}
