import java.io.IOException;
import java.nio.file.Files;
import java.nio.file.Path;
import java.util.Set;
import java.util.TreeSet;

/** The program against LANGUAGE.md, and that Rules, which looks at it, would see a rule broken. */
public final class LanguageTest {
    private static final Path PROGRAM = Path.of("src/main/java/BallotBoard.java");
    /** What breaks a rule is written in front of the program's constructor. */
    private static final String PLACE = "    public BallotBoard() {\n";

    private LanguageTest() {
    }

    public static void main(String[] args) throws IOException {
        String program = Files.readString(PROGRAM);
        Check.compare("rules that the program breaks", "[]", Rules.brokenBy(program).toString());
        Check.holds("the program has the place once", isThereOnce(program));
        seesFaceAndClasses(program);
        seesTypesAndLibrary(program);
        seesStaticState(program);
        seesExceptions(program);
        seesLoopsAndDepth(program);
        seesSizes(program);
        Check.end();
    }

    private static boolean isThereOnce(String program) {
        int at = program.indexOf(PLACE);
        return at >= 0 && at == program.lastIndexOf(PLACE);
    }

    private static void seesFaceAndClasses(String program) {
        sees(program, 1, "private int count(int a, int b) { return a + b; }");
        sees(program, 1, "int rows;");
        sees(program, 1, "private final class Inner { }");
        sees(program, 1, "public static final class Shown { }");
        sees(program, 2, "private static class One { int get() { return 1; } } private One made() { return new One() { }; }", 1);
        sees(program, 2, "private interface Act { int go(); } private Act made() { return () -> 1; }");
        sees(program, 2, "private interface Act { int go(); } private Act made() { return this::result; }");
    }

    private static void seesTypesAndLibrary(String program) {
        sees(program, 3, "private double half() { return 0; }");
        sees(program, 3, "private short half() { return 0; }");
        sees(program, 3, "private long[][][] cube;");
        sees(program, 3, "private java.util.Map<Board, Board> map;");
        sees(program, 3, "private static boolean isLong() { return \"text\" == null; }");
        sees(program, 4, "private static long added() { return Math.addExact(1L, 2L); }");
        sees(program, 4, "private static long now() { return System.nanoTime(); }");
        sees(program, 4, "private static long most() { return Long.MAX_VALUE; }");
        sees(program, 4, "private static boolean made() { return new Object() == null; }");
    }

    private static void seesStaticState(String program) {
        sees(program, 5, "private static int made;");
        sees(program, 5, "private static final Board SHARED = null;");
        sees(program, 5, "private static final int[] KEPT = new int[4];", 12);
        sees(program, 5, "private static final int[] KEPT = {1}; private void change() { KEPT[0] = 2; }");
        sees(program, 5, "private static final int[] KEPT = {1}; private void change() { KEPT[0] += 2; }");
        sees(program, 5, "private static final int[] KEPT = {1}; private void change() { KEPT[0]++; }");
        sees(program, 5, "static { }");
    }

    private static void seesExceptions(String program) {
        sees(program, 6, "private void fail() { throw new NullPointerException(); }");
        sees(program, 6, "private void fail() { throw null; }");
        sees(program, 6, "private void fail() { throw new IllegalStateException(new RuntimeException()); }", 4);
        sees(program, 6, "private static class Failing { Failing() { throw new IllegalStateException(); } }");
        sees(program, 6, "private void pass() { try { close(); } catch (IllegalStateException e) { return; } }", 3);
        sees(program, 6, "private synchronized void pass() { }");
        sees(program, 6, "private void pass() { synchronized (this) { } }");
        sees(program, 6, "private void pass() { assert draft == null; }");
        sees(program, 6, "private static class Same { public int hashCode() { return 1; } }");
    }

    private static void seesLoopsAndDepth(String program) {
        sees(program, 8, "private static int down(int n) { return n <= 0 ? 0 : down(n - 1); }");
        sees(program, 8, "private static int left(int n) { return right(n); } private static int right(int n) { return left(n); }");
        sees(program, 9, "private void spin() { while (true) { } }");
        sees(program, 9, "private void spin(boolean on) { while (on) { } }");
        sees(program, 9, "private void spin(int n) { while (n < 1 || n == 5) { } }");
        sees(program, 9, "private void spin(boolean on) { do { } while (on); }");
        sees(program, 9, "private void spin() { for (;;) { } }");
        sees(program, 9, "private void spin(int n) { for (; n < 1;) { } }");
        sees(program, 10, "private static boolean isJoined(int n) { return n + \"a\" == null; }", 3);
    }

    private static void seesSizes(String program) {
        sees(program, 11, "private int sum(int a, int b, int c, int d, int e, int f, int g, int h) { return a; }");
        sees(program, 11, "private int chainOf9() { return d8(); }" + callsInARow(8));
        seesNothing(program, "private int chainOf8() { return d7(); }" + callsInARow(7));
        sees(program, 11, "private void tall() {" + "\n".repeat(60) + "}");
        seesNothing(program, "private void tall() {" + "\n".repeat(59) + "}");
        sees(program, 11, "private static class Wide { " + numbered("int f%d;", 21) + "}");
        seesNothing(program, "private static class Wide { " + numbered("int f%d;", 20) + "}");
        sees(program, 11, numbered("private static class C%d { }", 5));
        seesNothing(program, numbered("private static class C%d { }", 4));
        sees(program, 12, "private void make() { for (int i = 0; i < 3; i++) { new Tally(); } }");
        sees(program, 12, "private void make() { int i = 0; while (i < 3) { new Tally(); i++; } }");
        sees(program, 12, "private int make() { return new int[3].length; }");
    }

    private static String callsInARow(int methods) {
        StringBuilder text = new StringBuilder("private int d1() { return 1; }");
        for (int i = 2; i <= methods; i++) {
            text.append("private int d").append(i).append("() { return d").append(i - 1).append("(); }");
        }
        return text.toString();
    }

    private static String numbered(String form, int times) {
        StringBuilder text = new StringBuilder();
        for (int i = 1; i <= times; i++) {
            text.append(String.format(form, i));
        }
        return text.toString();
    }

    /** Further rules: what the lines that break the first one break besides. */
    private static void sees(String program, int rule, String lines, int... furtherRules) {
        Set<String> due = new TreeSet<>(Set.of("rule " + rule));
        for (int further : furtherRules) {
            due.add("rule " + further);
        }
        Check.compare(lines, due.toString(), rulesBrokenWith(program, lines).toString());
    }

    private static void seesNothing(String program, String lines) {
        Check.compare(lines, "[]", rulesBrokenWith(program, lines).toString());
    }

    private static Set<String> rulesBrokenWith(String program, String lines) {
        Set<String> rules = new TreeSet<>();
        for (String told : Rules.brokenBy(program.replace(PLACE, lines + "\n" + PLACE))) {
            rules.add(told.substring(0, told.indexOf(':')));
        }
        return rules;
    }
}
