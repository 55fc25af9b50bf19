import java.math.BigInteger;

/** Promises 1 to 4: a new object, begin, key, makeKey. */
public final class GroupAndKeysTest {
    private GroupAndKeysTest() {
    }

    public static void main(String[] args) {
        beginTakesGroups();
        beginRefusesOtherNumbers();
        beginRefusesPseudoprimes();
        beginRefusesCarmichaelNumbers();
        beginMakesAllAnew();
        keyTakesJustWhatIsProved();
        keyRefusesWrongNumbers();
        makeKeyGoesByTheRules();
        Check.end();
    }

    private static void beginTakesGroups() {
        BallotBoard board = new BallotBoard();
        Check.answers("begin(7, 2, 1)", 3, () -> board.begin(7, 2, 1));
        Check.answers("begin(7, 4, 4)", 3, () -> board.begin(7, 4, 4));
        Check.answers("begin(23, 18, 2)", 11, () -> board.begin(23, 18, 2));
        Check.answers("begin, large", Boards.LARGE_Q, () -> board.begin(Boards.LARGE_P, 4, 3));
        Check.answers("begin, large, high g", Boards.LARGE_Q, () -> board.begin(Boards.LARGE_P, square(Boards.LARGE_P - 5), 3));
    }

    private static long square(long y) {
        return BigInteger.valueOf(y).modPow(BigInteger.TWO, BigInteger.valueOf(Boards.LARGE_P)).longValueExact();
    }

    private static void beginRefusesOtherNumbers() {
        Pair pair = new Pair("begin of many numbers");
        for (long p = -10; p <= 800; p++) {
            for (long g = -1; g <= Math.min(Math.max(p, 3), 60) + 1; g++) {
                pair.begin(p, g, 1);
            }
            pair.begin(p, p - 1, 1);
            pair.begin(p, p - 2, 1);
            pair.begin(p, p, 1);
            pair.begin(p, p + 4, 1);
        }
        pair.begin(Long.MIN_VALUE, 4, 1);
        pair.begin(Long.MAX_VALUE, 4, 1);
        pair.begin(Boards.LARGE_P, Long.MIN_VALUE, 1);
        pair.begin(Boards.LARGE_P, Long.MAX_VALUE, 1);
        pair.begin(Boards.LARGE_P, Boards.LARGE_P - 1, 1);
    }

    /** Numbers that pass the test of Miller and Rabin for the first few primes, as p and as q. */
    private static void beginRefusesPseudoprimes() {
        long[] pseudoprimes = {2047, 1373653, 25326001, 3215031751L, 2152302898747L, 3474749660383L, 341550071728321L};
        BallotBoard board = new BallotBoard();
        for (long number : pseudoprimes) {
            Edge.refusesArgument("begin, p " + number, board, () -> board.begin(number, 4, 1));
            Edge.refusesArgument("begin, q " + number, board, () -> board.begin(2 * number + 1, 4, 1));
        }
        // p is a prime and g is IN its squares, but q, no prime, passes for 2, 3 and 5.
        long[] nearGroups = {640634840713163L, 2035663888882763L, 28864082527707983L, 186816806599024703L};
        for (long p : nearGroups) {
            Edge.refusesArgument("begin, p " + p, board, () -> board.begin(p, 4, 1));
        }
    }

    /** q is no prime though x ** (q - 1) leaves 1 for all x that share nothing with it; p is a prime. */
    private static void beginRefusesCarmichaelNumbers() {
        long[] numbers = {939947009L, 105528976961L, 207222530621L, 1785176965601L, 2537027434481L};
        BallotBoard board = new BallotBoard();
        for (long q : numbers) {
            Edge.refusesArgument("begin, q " + q, board, () -> board.begin(2 * q + 1, 4, 1));
        }
    }

    private static void beginMakesAllAnew() {
        Pair pair = Boards.shared("begin anew", 3, "1101");
        pair.spoil(2, 3, 5);
        pair.audit();
        pair.begin(47, 4, 2);
        pair.everything();
        pair.makeBallot(0, true, 1, 1, 1, 1);
        pair.makeKey(0, 1, 1);
        pair.makeKey(1, 2, 1);
        pair.everything();
        pair.makeBallot(5, true, 1, 1, 1, 1);
        pair.close();
        pair.makeShare(0, 1, 1);
        pair.makeShare(1, 2, 1);
        pair.everything();
        Check.answers("begin anew: result()", 1, pair.board::result);
    }

    /** Every h, c, z about a small group; h that are not IN it have proofs that seem to hold, too. */
    private static void keyTakesJustWhatIsProved() {
        long[] primes = {7, 23};
        for (long p : primes) {
            Pair pair = new Pair("every key of " + p);
            pair.begin(p, 4, 2);
            for (long h = -1; h <= p + 2; h++) {
                for (long c = -1; c <= p / 2 + 1; c++) {
                    for (long z = -1; z <= p / 2 + 1; z++) {
                        if (!pair.key(1, h, c, z).startsWith("throws")) {
                            pair.chain(0, 0);
                            pair.begin(p, 4, 2);
                        }
                    }
                }
            }
        }
    }

    private static void keyRefusesWrongNumbers() {
        Pair pair = new Pair("wrong keys");
        pair.begin(Boards.LARGE_P, 4, 4);
        long[] row = pair.reference.keyByTheRules(3, 12345678901234567L, 998877665544332211L);
        long[] wrong = {0, 1, -1, Boards.LARGE_Q, Boards.LARGE_P, Boards.LARGE_P - 1, Long.MIN_VALUE, Long.MAX_VALUE};
        for (long number : wrong) {
            pair.key(3, number, row[3], row[4]);
            pair.key(3, row[2], number, row[4]);
            pair.key(3, row[2], row[3], number);
        }
        pair.key(3, Boards.LARGE_P - row[2], row[3], row[4]);
        pair.key(3, row[2] + Boards.LARGE_P, row[3], row[4]);
        pair.key(3, row[2], row[3] + Boards.LARGE_Q, row[4]);
        pair.key(3, row[2], row[3], row[4] + Boards.LARGE_Q);
        pair.key(3, row[2], row[3] - Boards.LARGE_Q, row[4]);
        int[] nobody = {-1, 4, Integer.MIN_VALUE, Integer.MAX_VALUE, 0, 1, 2};
        for (int i : nobody) {
            pair.key(i, row[2], row[3], row[4]);
        }
        pair.everything();
        pair.key(3, row[2], row[3], row[4]);
        pair.everything();
    }

    private static void makeKeyGoesByTheRules() {
        for (long x = 0; x < Boards.Q; x++) {
            for (long w = 0; w < Boards.Q; w++) {
                Pair pair = Boards.begun("makeKey(0, " + x + ", " + w + ")", 1);
                pair.makeKey(0, x, w);
                pair.everything();
            }
        }
        BallotBoard board = new BallotBoard();
        board.begin(23, 4, 1);
        board.makeKey(0, 3, 5);
        Check.answers("h of x 3", 18, () -> board.entry(0, 2));
    }
}
