/** The boundaries that the document tells of BALLOTS (section 2, promises 5 to 7); each test quotes its sentence. */
public final class BallotEdgesTest {
    private static final int A = 2;
    private static final int B = 3;
    private static final int C = 4;
    private static final int D = 6;
    private static final int Y = 7;

    private BallotEdgesTest() {
    }

    public static void main(String[] args) {
        votersAreZeroToSixtyThree();
        ballotsNeedAllKeys();
        ballotsEndWithTheClosing();
        ballotsEndAtEntryOneHundredFifty();
        roomIsLookedAtBehindTheStateAndBeforeTheRest();
        aAndBAreInTheGroup();
        exponentsOfBallotHaveBounds();
        exponentsOfMakeBallotHaveBounds();
        sumOfChallengesWrapsAround();
        proofHoldsForJustItsNumbers();
        latestBallotOfEachVoterCounts();
        sixtyFourVotersCount();
        closeTakesAnyNumberOfBallots();
        closeNeedsAnOpenBoardWithKeys();
        productsAreOneWithoutBallots();
        Check.end();
    }

    /** "VOTER i (0..63)". */
    private static void votersAreZeroToSixtyThree() {
        Pair pair = Boards.withKeys("voters", 1);
        BallotBoard board = pair.board;
        int[] nobody = {-1, 64, 65, -64, Integer.MIN_VALUE, Integer.MAX_VALUE};
        for (int i : nobody) {
            long[] row = pair.reference.ballotByTheRules(i, true, 1, 2, 3, 4);
            Edge.refusesArgument("ballot(" + i + ", ..)", board, () -> post(board, i, row));
            Edge.refusesArgument("makeBallot(" + i + ", ..)", board, () -> board.makeBallot(i, true, 1, 2, 3, 4));
        }
        int[] voters = {0, 1, 62, 63};
        int next = 1;
        for (int i : voters) {
            long[] row = pair.reference.ballotByTheRules(i, true, 1, 2, 3, 4);
            Check.answers("ballot(" + i + ", ..)", next, () -> post(board, i, row));
            Check.answers("makeBallot(" + i + ", ..)", next + 1, () -> board.makeBallot(i, false, 1, 2, 3, 4));
            next += 2;
        }
        Check.answers("voters: count(7)", 4, () -> board.count(7));
    }

    /** Promise 5, "not all KEYS are there": looked at before i and the exponents. */
    private static void ballotsNeedAllKeys() {
        Pair pair = Boards.begun("keys of ballots", 4);
        BallotBoard board = pair.board;
        for (int keys = 0; keys < 4; keys++) {
            Edge.refusesState("ballot with " + keys + " keys", board, () -> board.ballot(0, 1, 1, 0, 0, 0, 0));
            Edge.refusesState("ballot(64, ..) with " + keys + " keys", board, () -> board.ballot(64, 0, 0, -1, 0, 0, 0));
            Edge.refusesState("makeBallot with " + keys + " keys", board, () -> board.makeBallot(0, true, 1, 1, 1, 1));
            Edge.refusesState("makeBallot(-1, ..) with " + keys + " keys", board, () -> board.makeBallot(-1, true, 1, -1, 1, 1));
            pair.makeKey(keys, Boards.secret(keys), 1);
        }
        Edge.refusesArgument("ballot(64, ..) with all keys", board, () -> board.ballot(64, 0, 0, -1, 0, 0, 0));
        Edge.refusesArgument("makeBallot(-1, ..) with all keys", board, () -> board.makeBallot(-1, true, 1, -1, 1, 1));
        long[] row = pair.reference.ballotByTheRules(0, true, 1, 1, 1, 1);
        Check.answers("ballot with all keys", 4, () -> post(board, 0, row));
        Check.answers("makeBallot with all keys", 5, () -> board.makeBallot(0, true, 1, 1, 1, 1));
    }

    /** Promise 5, "it is closed". */
    private static void ballotsEndWithTheClosing() {
        Pair pair = Boards.withKeys("closing", 1);
        BallotBoard board = pair.board;
        long[] row = pair.reference.ballotByTheRules(5, true, 1, 2, 3, 4);
        Check.answers("open: ballot", 1, () -> post(board, 5, row));
        Check.answers("open: makeBallot", 2, () -> board.makeBallot(5, true, 1, 2, 3, 4));
        Check.answers("close()", 1, board::close);
        Edge.refusesState("closed: ballot", board, () -> post(board, 5, row));
        Edge.refusesState("closed: ballot(64, ..)", board, () -> post(board, 64, row));
        Edge.refusesState("closed: makeBallot", board, () -> board.makeBallot(5, true, 1, 2, 3, 4));
        Edge.refusesState("closed: makeBallot(-1, ..)", board, () -> board.makeBallot(-1, false, -1, 2, 3, 4));
        board.makeShare(0, Boards.secret(0), 1);
        Edge.refusesState("shared: ballot", board, () -> post(board, 5, row));
        Edge.refusesState("shared: makeBallot", board, () -> board.makeBallot(5, true, 1, 2, 3, 4));
    }

    /** Promise 5, "there are 150 ENTRIES": KEYS are among them, so 4 TRUSTEES leave room for 146 BALLOTS. */
    private static void ballotsEndAtEntryOneHundredFifty() {
        for (int n = 1; n <= 4; n += 3) {
            Pair pair = Boards.withKeys("room", n);
            BallotBoard board = pair.board;
            for (int k = n; k < 149; k++) {
                board.makeBallot(k % 64, k % 2 == 0, 1, 2, 3, 4);
            }
            long[] row = pair.reference.ballotByTheRules(63, true, 1, 2, 3, 4);
            Check.answers("149 entries: count(6)", 149, () -> board.count(6));
            Check.answers("149 entries: ballot", 149, () -> post(board, 63, row));
            Edge.refusesIndex("150 entries: ballot", board, () -> post(board, 63, row));
            Edge.refusesIndex("150 entries: makeBallot", board, () -> board.makeBallot(63, true, 1, 2, 3, 4));
            Check.answers("150 entries: count(6)", 150, () -> board.count(6));
            Check.answers("150 entries: close()", 64, board::close);
            for (int i = 0; i < n; i++) {
                int who = i;
                Check.answers("share " + i + " beyond 150", 150 + i, () -> board.makeShare(who, Boards.secret(who), 1));
            }
        }
        Pair pair = almostFull();
        Check.answers("149 entries: makeBallot", 149, () -> pair.board.makeBallot(0, true, 1, 2, 3, 4));
        Edge.refusesIndex("150 entries: makeBallot again", pair.board, () -> pair.board.makeBallot(0, true, 1, 2, 3, 4));
    }

    /** Promise 5, "(looked at before them, behind the state)": them is i, c, z, d, y and the proof. */
    private static void roomIsLookedAtBehindTheStateAndBeforeTheRest() {
        BallotBoard room = almostFull().board;
        wrongBallots("149 entries", "IllegalArgumentException", room);
        BallotBoard full = Boards.full("full").board;
        wrongBallots("150 entries", "IndexOutOfBoundsException", full);
        full.close();
        wrongBallots("150 entries, closed", "IllegalStateException", full);
        Edge.refusesState("150 entries, closed: makeBallot", full, () -> full.makeBallot(0, true, 1, 2, 3, 4));
    }

    private static void wrongBallots(String told, String exception, BallotBoard board) {
        Edge.refuses(told + ": ballot(-1, ..)", exception, board, () -> board.ballot(-1, 1, 1, 0, 0, 0, 0));
        Edge.refuses(told + ": ballot(64, ..)", exception, board, () -> board.ballot(64, 1, 1, 0, 0, 0, 0));
        Edge.refuses(told + ": ballot, c -1", exception, board, () -> board.ballot(0, 1, 1, -1, 0, 0, 0));
        Edge.refuses(told + ": ballot, z q", exception, board, () -> board.ballot(0, 1, 1, 0, 11, 0, 0));
        Edge.refuses(told + ": ballot, d -1", exception, board, () -> board.ballot(0, 1, 1, 0, 0, -1, 0));
        Edge.refuses(told + ": ballot, y q", exception, board, () -> board.ballot(0, 1, 1, 0, 0, 0, 11));
        Edge.refuses(told + ": ballot, a 0", exception, board, () -> board.ballot(0, 0, 1, 0, 0, 0, 0));
        Edge.refuses(told + ": ballot, b p", exception, board, () -> board.ballot(0, 1, 23, 0, 0, 0, 0));
        Edge.refuses(told + ": makeBallot(64, ..)", exception, board, () -> board.makeBallot(64, true, 1, 1, 1, 1));
        Edge.refuses(told + ": makeBallot, r -1", exception, board, () -> board.makeBallot(0, true, -1, 1, 1, 1));
        Edge.refuses(told + ": makeBallot, w q", exception, board, () -> board.makeBallot(0, false, 1, 11, 1, 1));
        Edge.refuses(told + ": makeBallot, e -1", exception, board, () -> board.makeBallot(0, true, 1, 1, -1, 1));
        Edge.refuses(told + ": makeBallot, f q", exception, board, () -> board.makeBallot(0, false, 1, 1, 1, 11));
    }

    /** "a, b are IN THE GROUP": with each c, z, d, y for each a and b, in the group of 7 and 2. */
    private static void aAndBAreInTheGroup() {
        for (long y = -8; y <= 16; y++) {
            boolean due = y == 1 || y == 2 || y == 4;
            Check.holds("a ballot with a " + y + " is " + (due ? "taken" : "refused"), someBallotIsTaken(y, 2) == due);
            Check.holds("a ballot with b " + y + " is " + (due ? "taken" : "refused"), someBallotIsTaken(4, y) == due);
        }
        BallotBoard board = Boards.withKeys("a and b", 1).board;
        long[] wrong = {0, -1, 22, 23, 24, Long.MIN_VALUE, Long.MAX_VALUE};
        for (long number : wrong) {
            Edge.refusesArgument("ballot, a " + number, board, () -> board.ballot(0, number, 1, 0, 0, 0, 0));
            Edge.refusesArgument("ballot, b " + number, board, () -> board.ballot(0, 1, number, 0, 0, 0, 0));
        }
    }

    private static boolean someBallotIsTaken(long a, long b) {
        BallotBoard board = new BallotBoard();
        board.begin(7, 2, 1);
        board.makeKey(0, 2, 1);
        for (int code = 0; code < 81; code++) {
            long[] row = {2, 0, a, b, code % 3, code / 3 % 3, code / 9 % 3, code / 27};
            if (Check.outcome(() -> post(board, 0, row)).equals("1")) {
                return true;
            }
        }
        return false;
    }

    /** "exponents are 0 to q - 1", promise 5, "i, c, z, d, y": what is q more or less leaves the same, but is none. */
    private static void exponentsOfBallotHaveBounds() {
        long q = Boards.LARGE_Q;
        long[] ends = {0, q - 1};
        for (long end : ends) {
            Pair pair = Boards.large("exponents", 1);
            pair.makeKey(0, 5, 6);
            long[] yes = pair.reference.ballotByTheRules(9, true, 7, 8, end, end);
            long[] no = pair.reference.ballotByTheRules(9, false, 7, 8, end, end);
            Check.holds("c, z of a yes are " + end, yes[C] == end && yes[C + 1] == end);
            Check.holds("d, y of a no are " + end, no[D] == end && no[Y] == end);
            for (int n = C; n <= Y; n++) {
                long[] wrong = {-1, q, -q, yes[n] + q, yes[n] - q, Long.MIN_VALUE, Long.MAX_VALUE};
                for (long number : wrong) {
                    refusesBent(pair.board, yes, n, number);
                }
                refusesBent(pair.board, no, n, no[n] + q);
                refusesBent(pair.board, no, n, no[n] - q);
            }
            Check.answers("ballot yes with " + end, 1, () -> post(pair.board, 9, yes));
            Check.answers("ballot no with " + end, 2, () -> post(pair.board, 9, no));
        }
    }

    /** Promise 6, "r, w, e, f are no exponents". */
    private static void exponentsOfMakeBallotHaveBounds() {
        long[] primes = {7, Boards.P, Boards.LARGE_P};
        for (long p : primes) {
            long q = p / 2;
            BallotBoard board = Boards.begunWith(p);
            board.makeKey(0, 2, 1);
            long[] wrong = {-1, q, q + 1, -q, p, Long.MIN_VALUE, Long.MAX_VALUE};
            for (long number : wrong) {
                for (int n = 0; n < 8; n++) {
                    long[] told = exponents(n % 4, number);
                    boolean yes = n < 4;
                    Edge.refusesArgument("makeBallot of " + p + ", exponent " + n % 4 + " is " + number, board, () -> make(board, yes, told));
                }
            }
            long[] right = {0, 1, q - 2, q - 1};
            for (long number : right) {
                for (int n = 0; n < 8; n++) {
                    long[] told = exponents(n % 4, number);
                    boolean yes = n < 4;
                    long due = board.count(6);
                    Check.answers("makeBallot of " + p + ", exponent " + n % 4 + " is " + number, due, () -> make(board, yes, told));
                }
            }
            Check.answers("ballots of " + p + ": audit()", -1, board::audit);
        }
    }

    private static long[] exponents(int n, long number) {
        return Boards.with(new long[] {1, 1, 1, 1}, n, number);
    }

    private static long make(BallotBoard board, boolean yes, long[] told) {
        return board.makeBallot(0, yes, told[0], told[1], told[2], told[3]);
    }

    /** "c + d = H (..)", "their sums .. leave what they leave divided by q": below q, q itself, and beyond it. */
    private static void sumOfChallengesWrapsAround() {
        boolean below = false;
        boolean just = false;
        boolean beyond = false;
        Pair pair = Boards.withKeys("sums", 1);
        for (int code = 0; code < 140; code++) {
            long[] row = pair.reference.ballotByTheRules(3, code % 2 == 0, code % 11, code / 11, code * 3 % 11, code * 7 % 11);
            Check.answers("ballot, c + d is " + (row[C] + row[D]), code + 1, () -> post(pair.board, 3, row));
            below = below || row[C] + row[D] < Boards.Q;
            just = just || row[C] + row[D] == Boards.Q;
            beyond = beyond || row[C] + row[D] > Boards.Q;
        }
        Check.holds("sums on both sides of q, and q itself", below && just && beyond);
        Pair large = Boards.large("large sums", 1);
        large.makeKey(0, 5, 6);
        long[] low = large.reference.ballotByTheRules(3, true, 7, 8, 0, 9);
        long[] high = large.reference.ballotByTheRules(3, true, 7, 8, Boards.LARGE_Q - 1, 9);
        Check.holds("a large sum below q", low[C] + low[D] < Boards.LARGE_Q);
        Check.holds("a large sum beyond q", high[C] + high[D] > Boards.LARGE_Q);
        Check.answers("ballot, large sum below q", 1, () -> post(large.board, 3, low));
        Check.answers("ballot, large sum beyond q", 2, () -> post(large.board, 3, high));
    }

    /** "One that is posted is taken, if its proof holds, else refused": each number is moved to both sides. */
    private static void proofHoldsForJustItsNumbers() {
        Pair pair = Boards.large("proof of a ballot", 1);
        pair.makeKey(0, 1234567890123L, 6);
        for (int vote = 0; vote < 2; vote++) {
            long[] row = pair.reference.ballotByTheRules(7, vote == 1, 11111111111L, 222222222222222L, 333333333333L, 44444444444L);
            for (int n = A; n <= Y; n++) {
                refusesBent(pair.board, row, n, row[n] + 1);
                refusesBent(pair.board, row, n, row[n] - 1);
            }
            refusesBent(pair.board, row, A, Boards.LARGE_P - row[A]);
            refusesBent(pair.board, row, B, Boards.LARGE_P - row[B]);
            Edge.refusesArgument("ballot of 7 posted as that of 6", pair.board, () -> post(pair.board, 6, row));
            Edge.refusesArgument("ballot of 7 posted as that of 8", pair.board, () -> post(pair.board, 8, row));
            long due = vote + 1;
            Check.answers("ballot as it should be", due, () -> post(pair.board, 7, row));
        }
    }

    private static void refusesBent(BallotBoard board, long[] row, int n, long number) {
        long[] bent = Boards.with(row, n, number);
        Edge.refusesArgument("ballot, number " + n + " is " + number, board, () -> post(board, (int) row[1], bent));
    }

    /** "The latest one of each VOTER COUNTS (earlier ones stay on THE BOARD)". */
    private static void latestBallotOfEachVoterCounts() {
        BallotBoard board = Boards.withKeys("latest", 1).board;
        Check.answers("no ballot: count(7)", 0, () -> board.count(7));
        board.makeBallot(63, true, 1, 2, 3, 4);
        Check.answers("first ballot of 63: count(7)", 1, () -> board.count(7));
        long earlier = board.entry(1, A);
        board.makeBallot(63, false, 2, 2, 3, 4);
        Check.answers("second ballot of 63: count(7)", 1, () -> board.count(7));
        Check.answers("second ballot of 63: count(6)", 3, () -> board.count(6));
        Check.answers("the earlier one stays", earlier, () -> board.entry(1, A));
        board.makeBallot(0, true, 3, 2, 3, 4);
        Check.answers("first ballot of 0: count(7)", 2, () -> board.count(7));
        Edge.refusesArgument("refused ballot of 63", board, () -> board.makeBallot(63, true, 11, 2, 3, 4));
        Edge.refusesArgument("refused ballot of 1", board, () -> board.makeBallot(1, true, 11, 2, 3, 4));
        Check.answers("close()", 2, board::close);
        Check.answers("A is 4 ** (2 + 3)", 12, () -> board.count(4));
        board.makeShare(0, Boards.secret(0), 1);
        Check.answers("result()", 1, board::result);
    }

    /** The same with every VOTER there is: one more BALLOT is one of a VOTER who has one. */
    private static void sixtyFourVotersCount() {
        BallotBoard board = Boards.withKeys("all voters", 1).board;
        for (int i = 0; i < 64; i++) {
            int before = i;
            Check.answers("count(7) before voter " + i, before, () -> board.count(7));
            board.makeBallot(i, true, 1, 2, 3, 4);
        }
        Check.answers("count(7) of all", 64, () -> board.count(7));
        Check.answers("one more", 65, () -> board.makeBallot(63, false, 1, 2, 3, 4));
        Check.answers("count(7) still", 64, () -> board.count(7));
        Check.answers("close() of all", 64, board::close);
    }

    /** Promise 7, "how many BALLOTS COUNT (0 will do)". */
    private static void closeTakesAnyNumberOfBallots() {
        Check.answers("close() of none", 0, Boards.withKeys("close", 1).board::close);
        Check.answers("close() of none, 4 trustees", 0, Boards.withKeys("close", 4).board::close);
        Check.answers("close() of one", 1, Boards.withBallots("close", 2, "0").board::close);
        Check.answers("close() of two", 2, Boards.withBallots("close", 3, "01").board::close);
        Check.answers("close() of a full board", 64, Boards.full("close").board::close);
    }

    /** Promise 7, "there is no GROUP, it was closed, or not all KEYS are there". */
    private static void closeNeedsAnOpenBoardWithKeys() {
        BallotBoard board = new BallotBoard();
        Edge.refusesState("close() without a group", board, board::close);
        board.begin(23, 4, 2);
        Edge.refusesState("close() without keys", board, board::close);
        board.makeKey(1, 3, 4);
        Edge.refusesState("close() with one key of two", board, board::close);
        Check.answers("not closed: count(10)", 0, () -> board.count(10));
        board.makeKey(0, 5, 6);
        Check.answers("close() with both", 0, board::close);
        Check.answers("closed: count(10)", 1, () -> board.count(10));
        Edge.refusesState("close() again", board, board::close);
        board.makeShare(0, 5, 1);
        board.makeShare(1, 3, 1);
        Edge.refusesState("close() with all shares", board, board::close);
        board.begin(23, 4, 1);
        Check.answers("anew: count(10)", 0, () -> board.count(10));
        Edge.refusesState("anew: close() without keys", board, board::close);
    }

    /** "A is the product of all a that COUNT, B that of all b (1 without any)": 0 stands for both before. */
    private static void productsAreOneWithoutBallots() {
        BallotBoard none = Boards.withKeys("products", 1).board;
        Check.answers("A before the closing", 0, () -> none.count(4));
        Check.answers("B before the closing", 0, () -> none.count(5));
        none.close();
        Check.answers("A without ballots", 1, () -> none.count(4));
        Check.answers("B without ballots", 1, () -> none.count(5));
        BallotBoard one = Boards.withBallots("products", 1, "1").board;
        Check.answers("A of one before the closing", 0, () -> one.count(4));
        Check.answers("B of one before the closing", 0, () -> one.count(5));
        one.close();
        Check.answers("A of one", one.entry(1, A), () -> one.count(4));
        Check.answers("B of one", one.entry(1, B), () -> one.count(5));
        BallotBoard two = Boards.closed("products", 1, "10").board;
        Check.answers("A of two", two.entry(1, A) * two.entry(2, A) % 23, () -> two.count(4));
        Check.answers("B of two", two.entry(1, B) * two.entry(2, B) % 23, () -> two.count(5));
    }

    /** 149 entries, one trustee. */
    private static Pair almostFull() {
        Pair pair = Boards.withKeys("almost full", 1);
        for (int k = 1; k < 149; k++) {
            pair.makeBallot(k % 64, true, 1, 2, 3, 4);
        }
        return pair;
    }

    private static long post(BallotBoard board, int i, long[] row) {
        return board.ballot(i, row[A], row[B], row[C], row[C + 1], row[D], row[Y]);
    }
}
