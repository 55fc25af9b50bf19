/** The boundaries that section 1 tells of p, q and g, and those of promises 1 and 2; each test quotes its sentence. */
public final class GroupEdgesTest {
    private static final long EDGE = 1L << 61;
    private static final long FIRST_BEYOND = 2305843009213699919L;

    private GroupEdgesTest() {
    }

    public static void main(String[] args) {
        pIsSevenOrMore();
        pIsAtMostTheEdge();
        pAndHalfOfItArePrimes();
        largePAndHalfOfItArePrimes();
        gIsInTheGroup();
        gIsInTheLargeGroup();
        newObjectHasNoGroup();
        newObjectKeepsNothingOfARefusedBegin();
        trusteesAreOneToFour();
        beginMakesAllAnew();
        beginAnswersHalfOfP();
        Check.end();
    }

    /** "a prime p, 7 to 2 ** 61": 5 is refused for its size alone, as 2 is a prime and 4 ** 2 leaves 1. */
    private static void pIsSevenOrMore() {
        refusedWithEachG(5);
        refusedWithEachG(6);
        taken(7, 2);
        refusedWithEachG(8);
        refusedWithEachG(10);
        taken(11, 3);
        long[] small = {4, 3, 2, 1, 0, -1, -5, -7, -11, -23, Long.MIN_VALUE};
        for (long p : small) {
            refused(p, 4, 1);
            refused(p, 2, 1);
        }
    }

    /** "a prime p, 7 to 2 ** 61": the first p beyond has all else that a GROUP needs. */
    private static void pIsAtMostTheEdge() {
        taken(Boards.LARGE_P, 4);
        refused(EDGE - 1, 4, 1);
        refused(EDGE, 4, 1);
        refused(EDGE + 1, 4, 1);
        refused(FIRST_BEYOND, 4, 1);
        refused(Long.MAX_VALUE, 4, 1);
    }

    /** "a prime p .. for which q = (p - 1) / 2 is a prime, too": 4 is IN every one of them. */
    private static void pAndHalfOfItArePrimes() {
        long[] fit = {7, 11, 23, 47, 59, 83, 107, 167, 179, 227, 263, 347, 359, 383};
        int next = 0;
        for (long p = 7; p < 400; p++) {
            if (next < fit.length && fit[next] == p) {
                taken(p, 4);
                next++;
            } else {
                refused(p, 4, 1);
            }
        }
    }

    /** The same next to the largest p: what is 12 less is a prime, its half is none. */
    private static void largePAndHalfOfItArePrimes() {
        for (long p = Boards.LARGE_P - 16; p <= Boards.LARGE_P + 16; p++) {
            if (p != Boards.LARGE_P) {
                refused(p, 4, 1);
            }
        }
        taken(Boards.LARGE_P, 4);
    }

    /** "numbers y, 1 to p - 1, with y ** q leaving 1 divided by p, are IN it; g is one, not 1". */
    private static void gIsInTheGroup() {
        gIsOneOf(7, 2, 4);
        gIsOneOf(11, 3, 4, 5, 9);
        gIsOneOf(23, 2, 3, 4, 6, 8, 9, 12, 13, 16, 18);
    }

    private static void gIsOneOf(long p, long... fit) {
        for (long g = -p - 2; g <= 2 * p + 2; g++) {
            boolean fits = false;
            for (long one : fit) {
                fits = fits || one == g;
            }
            if (fits) {
                taken(p, g);
            } else {
                refused(p, g, 1);
            }
        }
    }

    /** The same at both ends of the largest p. */
    private static void gIsInTheLargeGroup() {
        long p = Boards.LARGE_P;
        long[] fit = {3, 4, 5, 9, p - 2, p - 6, p - 7, p - 8, p - 10, p - 11};
        for (long g : fit) {
            taken(p, g);
        }
        long[] wrong = {0, 1, 2, 6, 7, 8, 10, p - 1, p - 3, p - 4, p - 5, p - 9, p, p + 1, p + 3, p + 4,
            -1, -2, 3 - p, 4 - p, Long.MIN_VALUE, Long.MIN_VALUE + 4, Long.MAX_VALUE};
        for (long g : wrong) {
            refused(p, g, 1);
        }
    }

    /** Promise 1, "No GROUP": so every call that needs one is refused, whatever it is told. */
    private static void newObjectHasNoGroup() {
        BallotBoard board = new BallotBoard();
        for (int what = 0; what <= 10; what++) {
            int asked = what;
            Check.answers("new: count(" + what + ")", 0, () -> board.count(asked));
        }
        int[] whos = {-1, 0, 3, 4, 63, 64};
        for (int i : whos) {
            Edge.refusesState("new: key(" + i + ", ..)", board, () -> board.key(i, 1, 0, 0));
            Edge.refusesState("new: makeKey(" + i + ", ..)", board, () -> board.makeKey(i, 0, 0));
            Edge.refusesState("new: ballot(" + i + ", ..)", board, () -> board.ballot(i, 1, 1, 0, 0, 0, 0));
            Edge.refusesState("new: makeBallot(" + i + ", ..)", board, () -> board.makeBallot(i, true, 0, 0, 0, 0));
            Edge.refusesState("new: share(" + i + ", ..)", board, () -> board.share(i, 1, 0, 0));
            Edge.refusesState("new: makeShare(" + i + ", ..)", board, () -> board.makeShare(i, 0, 0));
        }
        Edge.refusesState("new: close()", board, board::close);
        Edge.refusesState("new: result()", board, board::result);
        Edge.refusesState("new: audit()", board, board::audit);
        Edge.refusesIndex("new: entry(0, 0)", board, () -> board.entry(0, 0));
        Edge.refusesIndex("new: chain(0, 0)", board, () -> board.chain(0, 0));
        Edge.refusesIndex("new: spoil(0, 2, 1)", board, () -> board.spoil(0, 2, 1));
    }

    /** "A call that throws changes nothing": there is no GROUP after a refused begin, either. */
    private static void newObjectKeepsNothingOfARefusedBegin() {
        BallotBoard board = new BallotBoard();
        Edge.refusesArgument("new: begin(23, 4, 0)", board, () -> board.begin(23, 4, 0));
        Edge.refusesArgument("new: begin(23, 1, 1)", board, () -> board.begin(23, 1, 1));
        Edge.refusesArgument("new: begin(25, 4, 1)", board, () -> board.begin(25, 4, 1));
        Edge.refusesState("new: makeKey behind refused begins", board, () -> board.makeKey(0, 1, 1));
        Edge.refusesState("new: audit() behind refused begins", board, board::audit);
        Check.answers("new: begin(23, 4, 1)", 11, () -> board.begin(23, 4, 1));
        Check.answers("new: makeKey behind begin", 0, () -> board.makeKey(0, 1, 1));
        Check.answers("new: audit() behind begin", -1, board::audit);
    }

    /** Promise 2, "n is not 1..4". */
    private static void trusteesAreOneToFour() {
        for (int n = 1; n <= 4; n++) {
            int trustees = n;
            BallotBoard board = new BallotBoard();
            Check.answers("begin(23, 4, " + n + ")", 11, () -> board.begin(23, 4, trustees));
        }
        int[] wrong = {0, 5, -1, -4, Integer.MIN_VALUE, Integer.MAX_VALUE};
        for (int n : wrong) {
            refused(23, 4, n);
            refused(Boards.LARGE_P, 4, n);
        }
    }

    /** Promise 2, "All anew": as if the object had been made just now, whatever stood there. */
    private static void beginMakesAllAnew() {
        BallotBoard fresh = new BallotBoard();
        fresh.begin(47, 4, 2);
        String begun = Snapshot.of(fresh);
        String ended = smallElection(fresh);
        BallotBoard[] used = {Boards.begun("anew", 4).board, Boards.withKeys("anew", 3).board,
            Boards.withBallots("anew", 1, "11").board, Boards.full("anew").board,
            Boards.closed("anew", 4, "1111").board, Boards.shared("anew", 4, "1111").board};
        for (BallotBoard board : used) {
            board.audit();
            if (board.count(6) > 0) {
                board.spoil(0, 2, 5);
            }
            Check.answers("begin anew", 23, () -> board.begin(47, 4, 2));
            Check.compare("begin anew: what can be read", begun, Snapshot.of(board));
            Check.compare("begin anew: another election", ended, smallElection(board));
        }
    }

    private static String smallElection(BallotBoard board) {
        board.makeKey(1, 5, 6);
        board.makeKey(0, 7, 8);
        board.makeBallot(2, true, 9, 10, 11, 12);
        board.close();
        board.makeShare(0, 7, 13);
        board.makeShare(1, 5, 14);
        return Snapshot.of(board);
    }

    /** Promise 2, "All anew with n TRUSTEES: q", from the least p to the largest. */
    private static void beginAnswersHalfOfP() {
        BallotBoard board = new BallotBoard();
        Check.answers("begin(7, 4, 1)", 3, () -> board.begin(7, 4, 1));
        Check.answers("count(1) of 7", 3, () -> board.count(1));
        Check.answers("begin, large", 1152921504606845789L, () -> board.begin(Boards.LARGE_P, 4, 1));
        Check.answers("count(1), large", 1152921504606845789L, () -> board.count(1));
        Check.answers("count(0), large", Boards.LARGE_P, () -> board.count(0));
    }

    private static void taken(long p, long g) {
        BallotBoard board = new BallotBoard();
        Check.answers("begin(" + p + ", " + g + ", 1)", (p - 1) / 2, () -> board.begin(p, g, 1));
    }

    private static void refusedWithEachG(long p) {
        for (long g = -1; g <= p + 1; g++) {
            refused(p, g, 1);
        }
    }

    private static void refused(long p, long g, int n) {
        BallotBoard board = Boards.shared("begin", 1, "1").board;
        Edge.refusesArgument("begin(" + p + ", " + g + ", " + n + ")", board, () -> board.begin(p, g, n));
    }
}
