import java.lang.management.ManagementFactory;
import java.lang.reflect.Constructor;
import java.lang.reflect.Field;
import java.lang.reflect.Method;
import java.lang.reflect.Modifier;
import java.util.Arrays;
import java.util.TreeSet;

/** The public face of the document, and how little a run of calls makes. */
public final class FaceTest {
    private static final String[] FACE = {
        "long begin(long, long, int) IllegalArgumentException",
        "int key(int, long, long, long) IllegalStateException IllegalArgumentException",
        "int makeKey(int, long, long) IllegalStateException IllegalArgumentException",
        "int ballot(int, long, long, long, long, long, long) IllegalStateException IndexOutOfBoundsException IllegalArgumentException",
        "int makeBallot(int, boolean, long, long, long, long) IllegalStateException IndexOutOfBoundsException IllegalArgumentException",
        "int close() IllegalStateException",
        "int share(int, long, long, long) IllegalStateException IllegalArgumentException",
        "int makeShare(int, long, long) IllegalStateException IllegalArgumentException",
        "int result() IllegalStateException",
        "long entry(int, int) IndexOutOfBoundsException",
        "long chain(int, int) IndexOutOfBoundsException",
        "long spoil(int, int, long) IndexOutOfBoundsException",
        "int audit() IllegalStateException",
        "long count(int) IllegalArgumentException"
    };
    /** Far below the room of one run: 7.3 million fields and elements. */
    private static final long MOST_OCTETS = 1_000_000;

    private FaceTest() {
    }

    public static void main(String[] args) {
        methodsAreThoseOfTheDocument();
        nothingElseIsVisible();
        callsMakeLittle();
        Check.end();
    }

    private static void methodsAreThoseOfTheDocument() {
        TreeSet<String> found = new TreeSet<>();
        for (Method method : BallotBoard.class.getDeclaredMethods()) {
            if (!Modifier.isPrivate(method.getModifiers())) {
                Check.holds(method.getName() + " is public", method.getModifiers() == Modifier.PUBLIC);
                found.add(told(method));
            }
        }
        Check.compare("the face", new TreeSet<>(Arrays.asList(FACE)).toString(), found.toString());
    }

    private static String told(Method method) {
        StringBuilder text = new StringBuilder();
        text.append(method.getReturnType().getName()).append(' ').append(method.getName()).append('(');
        String between = "";
        for (Class<?> type : method.getParameterTypes()) {
            text.append(between).append(type.getName());
            between = ", ";
        }
        text.append(')');
        for (Class<?> type : method.getExceptionTypes()) {
            text.append(' ').append(type.getSimpleName());
        }
        return text.toString();
    }

    private static void nothingElseIsVisible() {
        Check.holds("the class is public and final", BallotBoard.class.getModifiers() == (Modifier.PUBLIC | Modifier.FINAL));
        Constructor<?>[] constructors = BallotBoard.class.getDeclaredConstructors();
        Check.holds("one constructor", constructors.length == 1);
        Check.holds("it is public", constructors[0].getModifiers() == Modifier.PUBLIC);
        Check.holds("it takes nothing", constructors[0].getParameterCount() == 0);
        for (Field field : BallotBoard.class.getDeclaredFields()) {
            Check.holds(field.getName() + " is private", Modifier.isPrivate(field.getModifiers()));
        }
        for (Class<?> inside : BallotBoard.class.getDeclaredClasses()) {
            Check.holds(inside.getName() + " is static", Modifier.isStatic(inside.getModifiers()));
            Check.holds(inside.getName() + " is private", Modifier.isPrivate(inside.getModifiers()));
        }
    }

    private static void callsMakeLittle() {
        wholeRun();
        com.sun.management.ThreadMXBean meter = (com.sun.management.ThreadMXBean) ManagementFactory.getThreadMXBean();
        long before = meter.getThreadAllocatedBytes(Thread.currentThread().getId());
        wholeRun();
        long made = meter.getThreadAllocatedBytes(Thread.currentThread().getId()) - before;
        Check.holds("a run of 512 calls makes " + made + " octets", made <= MOST_OCTETS);
    }

    private static void wholeRun() {
        BallotBoard board = new BallotBoard();
        for (int call = 0; call < 100; call++) {
            board.begin(Boards.LARGE_P, 4, 1);
        }
        board.makeKey(0, 5, 6);
        for (int call = 0; call < 149; call++) {
            board.makeBallot(call % 64, true, call, 1, 2, 3);
        }
        board.close();
        board.makeShare(0, 5, 6);
        for (int call = 0; call < 130; call++) {
            board.spoil(0, 3, board.entry(0, 3));
            board.audit();
        }
    }
}
