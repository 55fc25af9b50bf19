import java.math.BigInteger;

/** Promises 1 to 4: a new object, begin, key, makeKey. */
public final class GroupAndKeysTest {
    private GroupAndKeysTest() {
    }

    public static void main(String[] args) {
        newObjectHasNothing();
        newObjectRefusesAll();
        beginTakesGroups();
        beginRefusesOtherNumbers();
        beginRefusesPseudoprimes();
        beginLooksAtTheUpperEdge();
        beginLooksAtTrustees();
        refusedBeginChangesNothing();
        beginMakesAllAnew();
        keyTakesJustWhatIsProved();
        keyLooksAtTheStateFirst();
        keyRefusesWrongNumbers();
        makeKeyGoesByTheRules();
        makeKeyRefusesWrongNumbers();
        Check.end();
    }

    private static void newObjectHasNothing() {
        BallotBoard board = new BallotBoard();
        for (int what = 0; what <= 10; what++) {
            int asked = what;
            Check.answers("new: count(" + what + ")", 0, () -> board.count(asked));
        }
    }

    private static void newObjectRefusesAll() {
        BallotBoard board = new BallotBoard();
        Check.refusesState("new: key", () -> board.key(-1, 1, -1, 0));
        Check.refusesState("new: makeKey", () -> board.makeKey(9, -1, 0));
        Check.refusesState("new: ballot", () -> board.ballot(-1, 1, 1, -1, 0, 0, 0));
        Check.refusesState("new: makeBallot", () -> board.makeBallot(64, true, -1, 0, 0, 0));
        Check.refusesState("new: close", board::close);
        Check.refusesState("new: share", () -> board.share(-1, 1, -1, 0));
        Check.refusesState("new: makeShare", () -> board.makeShare(0, 0, 0));
        Check.refusesState("new: result", board::result);
        Check.refusesState("new: audit", board::audit);
        Check.refusesIndex("new: entry", () -> board.entry(0, 0));
        Check.refusesIndex("new: chain", () -> board.chain(0, 0));
        Check.refusesIndex("new: spoil", () -> board.spoil(0, 2, 1));
        Check.refusesArgument("new: count", () -> board.count(11));
    }

    private static void beginTakesGroups() {
        BallotBoard board = new BallotBoard();
        Check.answers("begin(7, 2, 1)", 3, () -> board.begin(7, 2, 1));
        Check.answers("begin(7, 4, 4)", 3, () -> board.begin(7, 4, 4));
        Check.answers("begin(23, 18, 2)", 11, () -> board.begin(23, 18, 2));
        Check.answers("begin, large", Boards.LARGE_Q, () -> board.begin(Boards.LARGE_P, 4, 3));
        Check.answers("begin, large, high g", Boards.LARGE_Q, () -> board.begin(Boards.LARGE_P, square(Boards.LARGE_P - 5), 3));
    }

    private static long square(long y) {
        return BigInteger.valueOf(y).modPow(BigInteger.TWO, BigInteger.valueOf(Boards.LARGE_P)).longValueExact();
    }

    private static void beginRefusesOtherNumbers() {
        Pair pair = new Pair("begin of many numbers");
        for (long p = -10; p <= 800; p++) {
            for (long g = -1; g <= Math.min(Math.max(p, 3), 60) + 1; g++) {
                pair.begin(p, g, 1);
            }
            pair.begin(p, p - 1, 1);
            pair.begin(p, p - 2, 1);
            pair.begin(p, p, 1);
            pair.begin(p, p + 4, 1);
        }
        pair.begin(Long.MIN_VALUE, 4, 1);
        pair.begin(Long.MAX_VALUE, 4, 1);
        pair.begin(Boards.LARGE_P, Long.MIN_VALUE, 1);
        pair.begin(Boards.LARGE_P, Long.MAX_VALUE, 1);
        pair.begin(Boards.LARGE_P, Boards.LARGE_P - 1, 1);
    }

    /** Numbers that pass the test of Miller and Rabin for the first few primes, as p and as q. */
    private static void beginRefusesPseudoprimes() {
        long[] pseudoprimes = {2047, 1373653, 25326001, 3215031751L, 2152302898747L, 3474749660383L, 341550071728321L};
        BallotBoard board = new BallotBoard();
        for (long number : pseudoprimes) {
            Check.refusesArgument("begin, p " + number, () -> board.begin(number, 4, 1));
            Check.refusesArgument("begin, q " + number, () -> board.begin(2 * number + 1, 4, 1));
        }
        // p is a prime and g is IN its squares, but q, no prime, passes for 2, 3 and 5.
        long[] nearGroups = {640634840713163L, 2035663888882763L, 28864082527707983L, 186816806599024703L};
        for (long p : nearGroups) {
            Check.refusesArgument("begin, p " + p, () -> board.begin(p, 4, 1));
        }
    }

    private static void beginLooksAtTheUpperEdge() {
        BallotBoard board = new BallotBoard();
        long edge = 1L << 61;
        Check.refusesArgument("begin, p 2 ** 61", () -> board.begin(edge, 4, 1));
        Check.refusesArgument("begin, p 2 ** 61 - 1", () -> board.begin(edge - 1, 4, 1));
        long above = edge + 3;
        while (!isSafe(above)) {
            above += 4;
        }
        long beyond = above;
        Check.refusesArgument("begin, the first fitting p beyond 2 ** 61", () -> board.begin(beyond, 4, 1));
        long below = edge - 1;
        while (!isSafe(below)) {
            below -= 4;
        }
        long last = below;
        Check.answers("begin, the last p below 2 ** 61", (last - 1) / 2, () -> board.begin(last, 4, 1));
    }

    private static boolean isSafe(long p) {
        return BigInteger.valueOf(p).isProbablePrime(60) && BigInteger.valueOf(p / 2).isProbablePrime(60);
    }

    private static void beginLooksAtTrustees() {
        BallotBoard board = new BallotBoard();
        for (int n = 1; n <= 4; n++) {
            int trustees = n;
            Check.answers("begin, n " + n, 11, () -> board.begin(23, 4, trustees));
        }
        int[] wrong = {0, 5, -1, Integer.MIN_VALUE, Integer.MAX_VALUE};
        for (int trustees : wrong) {
            Check.refusesArgument("begin, n " + trustees, () -> board.begin(23, 4, trustees));
        }
    }

    private static void refusedBeginChangesNothing() {
        Pair pair = Boards.shared("refused begin", 2, "101");
        pair.begin(23, 4, 5);
        pair.begin(23, 1, 2);
        pair.begin(23, 5, 2);
        pair.begin(25, 4, 2);
        pair.everything();
        Check.answers("refused begin: result()", 2, pair.board::result);
    }

    private static void beginMakesAllAnew() {
        Pair pair = Boards.shared("begin anew", 3, "1101");
        pair.spoil(2, 3, 5);
        pair.audit();
        pair.begin(47, 4, 2);
        pair.everything();
        pair.makeBallot(0, true, 1, 1, 1, 1);
        pair.makeKey(0, 1, 1);
        pair.makeKey(1, 2, 1);
        pair.everything();
        pair.makeBallot(5, true, 1, 1, 1, 1);
        pair.close();
        pair.makeShare(0, 1, 1);
        pair.makeShare(1, 2, 1);
        pair.everything();
        Check.answers("begin anew: result()", 1, pair.board::result);
    }

    /** Every h, c, z about a small group; h that are not IN it have proofs that seem to hold, too. */
    private static void keyTakesJustWhatIsProved() {
        long[] primes = {7, 23};
        for (long p : primes) {
            Pair pair = new Pair("every key of " + p);
            pair.begin(p, 4, 2);
            for (long h = -1; h <= p + 2; h++) {
                for (long c = -1; c <= p / 2 + 1; c++) {
                    for (long z = -1; z <= p / 2 + 1; z++) {
                        if (!pair.key(1, h, c, z).startsWith("throws")) {
                            pair.chain(0, 0);
                            pair.begin(p, 4, 2);
                        }
                    }
                }
            }
        }
    }

    private static void keyLooksAtTheStateFirst() {
        Pair pair = Boards.begun("key, state", 2);
        long[] row = pair.reference.keyByTheRules(1, 5, 6);
        Check.answers("key(1, ..)", 0, () -> pair.board.key(1, row[2], row[3], row[4]));
        Check.refusesState("key again", () -> pair.board.key(1, row[2], row[3], row[4]));
        Check.refusesState("key again, wrong c", () -> pair.board.key(1, row[2], -1, row[4]));
        Check.refusesState("makeKey again, wrong x", () -> pair.board.makeKey(1, 11, 0));
        Check.refusesArgument("key(2, ..)", () -> pair.board.key(2, row[2], row[3], row[4]));
        Check.answers("makeKey(0, 0, 10)", 1, () -> pair.board.makeKey(0, 0, 10));
        Check.refusesArgument("key(2, ..), all keys there", () -> pair.board.key(2, row[2], row[3], row[4]));
        Check.answers("close()", 0, pair.board::close);
        Check.refusesState("key(2, ..), closed", () -> pair.board.key(2, row[2], row[3], row[4]));
        Check.refusesState("makeKey(-1, ..), closed", () -> pair.board.makeKey(-1, 0, 0));
    }

    private static void keyRefusesWrongNumbers() {
        Pair pair = new Pair("wrong keys");
        pair.begin(Boards.LARGE_P, 4, 4);
        long[] row = pair.reference.keyByTheRules(3, 12345678901234567L, 998877665544332211L);
        long[] wrong = {0, 1, -1, Boards.LARGE_Q, Boards.LARGE_P, Boards.LARGE_P - 1, Long.MIN_VALUE, Long.MAX_VALUE};
        for (long number : wrong) {
            pair.key(3, number, row[3], row[4]);
            pair.key(3, row[2], number, row[4]);
            pair.key(3, row[2], row[3], number);
        }
        pair.key(3, Boards.LARGE_P - row[2], row[3], row[4]);
        pair.key(3, row[2] + Boards.LARGE_P, row[3], row[4]);
        pair.key(3, row[2], row[3] + Boards.LARGE_Q, row[4]);
        pair.key(3, row[2], row[3], row[4] + Boards.LARGE_Q);
        pair.key(3, row[2], row[3] - Boards.LARGE_Q, row[4]);
        int[] nobody = {-1, 4, Integer.MIN_VALUE, Integer.MAX_VALUE, 0, 1, 2};
        for (int i : nobody) {
            pair.key(i, row[2], row[3], row[4]);
        }
        pair.everything();
        pair.key(3, row[2], row[3], row[4]);
        pair.everything();
    }

    private static void makeKeyGoesByTheRules() {
        for (long x = 0; x < Boards.Q; x++) {
            for (long w = 0; w < Boards.Q; w++) {
                Pair pair = Boards.begun("makeKey(0, " + x + ", " + w + ")", 1);
                pair.makeKey(0, x, w);
                pair.everything();
            }
        }
        BallotBoard board = new BallotBoard();
        board.begin(23, 4, 1);
        board.makeKey(0, 3, 5);
        Check.answers("h of x 3", 18, () -> board.entry(0, 2));
    }

    private static void makeKeyRefusesWrongNumbers() {
        Pair pair = Boards.begun("makeKey, wrong", 2);
        long[] wrong = {-1, 11, 12, Long.MIN_VALUE, Long.MAX_VALUE};
        for (long number : wrong) {
            Check.refusesArgument("makeKey, x " + number, () -> pair.board.makeKey(0, number, 1));
            Check.refusesArgument("makeKey, w " + number, () -> pair.board.makeKey(0, 1, number));
        }
        Check.refusesArgument("makeKey(-1, ..)", () -> pair.board.makeKey(-1, 1, 1));
        Check.refusesArgument("makeKey(2, ..)", () -> pair.board.makeKey(2, 1, 1));
        Check.answers("makeKey, wrong: count(6)", 0, () -> pair.board.count(6));
        Check.answers("makeKey(1, 10, 10)", 0, () -> pair.board.makeKey(1, 10, 10));
    }
}
