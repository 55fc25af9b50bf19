/** The boundaries that the document tells of SHARES and THE RESULT (section 2, promises 8 to 10); each test quotes its sentence. */
public final class ShareEdgesTest {
    private static final int SHARE_C = 3;
    private static final int SHARE_Z = 4;

    private ShareEdgesTest() {
    }

    public static void main(String[] args) {
        trusteesAreZeroToLessThanN();
        sharesBeginWithTheClosing();
        oneShareEach();
        sIsInTheGroup();
        exponentsOfShareHaveBounds();
        exponentsOfLargeShareHaveBounds();
        exponentsOfMakeShareHaveBounds();
        proofHoldsForJustItsNumbers();
        otherSecretsNeedTheChallengeZero();
        sharesHoldWithoutBallots();
        resultNeedsAllShares();
        resultIsFromZeroToTheCount();
        resultIsNoneBeyondTheCount();
        resultIsTheLeastWhereItWrapsAround();
        resultOfAllVoters();
        Check.end();
    }

    /** "TRUSTEES 0..n - 1", promise 8, "i". */
    private static void trusteesAreZeroToLessThanN() {
        for (int n = 1; n <= 4; n++) {
            Pair pair = Boards.closed("trustees of " + n, n, "1");
            BallotBoard board = pair.board;
            int[] nobody = {-1, n, n + 1, 4, Integer.MIN_VALUE, Integer.MAX_VALUE};
            for (int i : nobody) {
                long[] row = pair.reference.shareByTheRules(i, Boards.secret(0), 5);
                Edge.refusesArgument("share(" + i + ", ..) of " + n, board, () -> post(board, i, row));
                Edge.refusesArgument("makeShare(" + i + ", ..) of " + n, board, () -> board.makeShare(i, Boards.secret(0), 5));
            }
            int last = n - 1;
            long[] row = pair.reference.shareByTheRules(last, Boards.secret(last), 5);
            Check.answers("share(" + last + ", ..) of " + n, n + 1, () -> post(board, last, row));
            if (last > 0) {
                Check.answers("makeShare(0, ..) of " + n, n + 2, () -> board.makeShare(0, Boards.secret(0), 5));
            }
        }
    }

    /** Promise 8, "it is not closed": looked at before i, c, z and the proof. */
    private static void sharesBeginWithTheClosing() {
        BallotBoard begun = Boards.begun("share", 1).board;
        BallotBoard keys = Boards.withKeys("share", 1).board;
        Pair pair = Boards.withBallots("share", 1, "1");
        BallotBoard[] open = {new BallotBoard(), begun, keys, pair.board};
        for (BallotBoard board : open) {
            Edge.refusesState("open: share", board, () -> board.share(0, 1, 0, 0));
            Edge.refusesState("open: share(-1, ..)", board, () -> board.share(-1, 0, -1, 0));
            Edge.refusesState("open: makeShare", board, () -> board.makeShare(0, Boards.secret(0), 1));
            Edge.refusesState("open: makeShare(1, ..)", board, () -> board.makeShare(1, -1, 11));
        }
        pair.close();
        Edge.refusesArgument("closed: share(-1, ..)", pair.board, () -> pair.board.share(-1, 0, -1, 0));
        Edge.refusesArgument("closed: makeShare(1, ..)", pair.board, () -> pair.board.makeShare(1, -1, 11));
        Check.answers("closed: makeShare", 2, () -> pair.board.makeShare(0, Boards.secret(0), 1));
    }

    /** "One each", promise 8, "the SHARE of i is there": that of another TRUSTEE is not, and all else is looked at later. */
    private static void oneShareEach() {
        Pair pair = Boards.closed("one share each", 3, "10");
        BallotBoard board = pair.board;
        long x = Boards.secret(1);
        long[] row = pair.reference.shareByTheRules(1, x, 5);
        long[] other = pair.reference.shareByTheRules(1, x, 6);
        Check.answers("the share of 1", 5, () -> post(board, 1, row));
        Edge.refusesState("the share of 1 again", board, () -> post(board, 1, row));
        Edge.refusesState("another share of 1", board, () -> post(board, 1, other));
        Edge.refusesState("the share of 1 again, s 0", board, () -> board.share(1, 0, row[SHARE_C], row[SHARE_Z]));
        Edge.refusesState("the share of 1 again, c -1", board, () -> board.share(1, row[2], -1, row[SHARE_Z]));
        Edge.refusesState("the share of 1 again, z q", board, () -> board.share(1, row[2], row[SHARE_C], Boards.Q));
        Edge.refusesState("makeShare of 1 again", board, () -> board.makeShare(1, x, 6));
        Edge.refusesState("makeShare of 1 again, x -1", board, () -> board.makeShare(1, -1, 6));
        Edge.refusesState("makeShare of 1 again, w q", board, () -> board.makeShare(1, x, Boards.Q));
        Check.answers("the share of 0", 6, () -> board.makeShare(0, Boards.secret(0), 6));
        Edge.refusesState("makeShare of 0 again", board, () -> board.makeShare(0, Boards.secret(0), 6));
        Check.answers("the share of 2", 7, () -> board.makeShare(2, Boards.secret(2), 6));
        for (int i = 0; i < 3; i++) {
            int who = i;
            Edge.refusesState("all shares there, makeShare of " + i, board, () -> board.makeShare(who, Boards.secret(who), 6));
        }
        Check.answers("count(9)", 3, () -> board.count(9));
    }

    /** "s is IN THE GROUP": with each c, z for each s, in the group of 11 and 4. */
    private static void sIsInTheGroup() {
        for (long s = -13; s <= 24; s++) {
            boolean due = s == 1 || s == 3 || s == 4 || s == 5 || s == 9;
            Check.holds("a share with s " + s + " is " + (due ? "taken" : "refused"), someShareIsTaken(s) == due);
        }
        BallotBoard board = Boards.closed("s", 1, "1").board;
        long[] wrong = {0, -1, 22, 23, 24, 27, Long.MIN_VALUE, Long.MAX_VALUE};
        for (long s : wrong) {
            Edge.refusesArgument("share(0, " + s + ", 0, 0)", board, () -> board.share(0, s, 0, 0));
        }
    }

    private static boolean someShareIsTaken(long s) {
        for (int voter = 0; voter < 8; voter++) {
            BallotBoard board = new BallotBoard();
            board.begin(11, 4, 1);
            board.makeKey(0, 2, 1);
            board.makeBallot(voter, true, 1 + voter % 4, 1, 2, 3);
            board.close();
            if (takeSomeShare(board, s, 5)) {
                return true;
            }
        }
        return false;
    }

    /** Whether one of the c, z below q is taken with s; the board has it then. */
    private static boolean takeSomeShare(BallotBoard board, long s, long q) {
        for (long c = 0; c < q; c++) {
            for (long z = 0; z < q; z++) {
                long[] row = {3, 0, s, c, z};
                if (!Check.outcome(() -> post(board, 0, row)).startsWith("throws")) {
                    return true;
                }
            }
        }
        return false;
    }

    /** "exponents are 0 to q - 1", promise 8, "c, z": what is q more or less leaves the same, but is none. */
    private static void exponentsOfShareHaveBounds() {
        long[] ends = {0, 1, Boards.Q - 2, Boards.Q - 1};
        for (int n = SHARE_C; n <= SHARE_Z; n++) {
            for (long end : ends) {
                exponentIsTaken(n, end);
            }
        }
    }

    private static void exponentIsTaken(int n, long exponent) {
        String[] votes = {"1", "0", "10", "11", "111", "01"};
        for (String vote : votes) {
            Pair pair = Boards.closed("share with " + exponent, 1, vote);
            long[] row = shareWith(pair.reference, n, exponent);
            if (row != null) {
                long[] wrong = {exponent - Boards.Q, exponent + Boards.Q, exponent + (1L << 32), exponent + Long.MIN_VALUE};
                for (long number : wrong) {
                    long[] bent = Boards.with(row, n, number);
                    Edge.refusesArgument("share, number " + n + " is " + number, pair.board, () -> post(pair.board, 0, bent));
                }
                long due = pair.board.count(6);
                Check.answers("share, number " + n + " is " + exponent, due, () -> post(pair.board, 0, row));
                return;
            }
        }
        Check.holds("a share is found whose number " + n + " is " + exponent, false);
    }

    private static long[] shareWith(Reference reference, int n, long number) {
        for (long w = 0; w < Boards.Q; w++) {
            long[] row = reference.shareByTheRules(0, Boards.secret(0), w);
            if (row[n] == number) {
                return row;
            }
        }
        return null;
    }

    /** The same with the largest p; the secret is 0, so that z is w. */
    private static void exponentsOfLargeShareHaveBounds() {
        long[] ends = {0, Boards.LARGE_Q - 1};
        for (long end : ends) {
            Pair pair = largeClosed(0);
            long[] row = pair.reference.shareByTheRules(0, 0, end);
            Check.holds("z of a large share is " + end, row[SHARE_Z] == end);
            long[] wrong = {-1, Boards.LARGE_Q, end - Boards.LARGE_Q, end + Boards.LARGE_Q, Long.MIN_VALUE, Long.MAX_VALUE};
            for (long number : wrong) {
                refusesBent(pair.board, row, SHARE_Z, number);
            }
            refusesBent(pair.board, row, SHARE_C, row[SHARE_C] - Boards.LARGE_Q);
            refusesBent(pair.board, row, SHARE_C, row[SHARE_C] + Boards.LARGE_Q);
            Check.answers("large share, z " + end, 2, () -> post(pair.board, 0, row));
        }
    }

    /** Promise 9, "i, x, w": the KEY is that of the x that is to be taken. */
    private static void exponentsOfMakeShareHaveBounds() {
        long[] primes = {7, Boards.P, Boards.LARGE_P};
        for (long p : primes) {
            long q = p / 2;
            long[] right = {0, 1, q - 2, q - 1};
            for (long secret : right) {
                BallotBoard board = closedWith(p, secret);
                long[] wrong = {-1, q, secret + q, secret - q, p, Long.MIN_VALUE, Long.MAX_VALUE};
                for (long number : wrong) {
                    Edge.refusesArgument("makeShare of " + p + ", x " + number, board, () -> board.makeShare(0, number, 0));
                    Edge.refusesArgument("makeShare of " + p + ", w " + number, board, () -> board.makeShare(0, secret, number));
                }
                for (long w : right) {
                    BallotBoard other = closedWith(p, secret);
                    Check.answers("makeShare(0, " + secret + ", " + w + ") of " + p, 2, () -> other.makeShare(0, secret, w));
                    Check.answers("its result()", 1, other::result);
                }
            }
        }
    }

    private static BallotBoard closedWith(long p, long secret) {
        BallotBoard board = Boards.begunWith(p);
        board.makeKey(0, secret, 1);
        board.makeBallot(0, true, 2, 1, 0, 1);
        board.close();
        return board;
    }

    /** "One that is posted is taken, if its proof holds, else refused": each number is moved to both sides. */
    private static void proofHoldsForJustItsNumbers() {
        Pair pair = largeClosed(1234567890123456L);
        long[] row = pair.reference.shareByTheRules(0, 1234567890123456L, 99999999999L);
        for (int n = 2; n <= SHARE_Z; n++) {
            refusesBent(pair.board, row, n, row[n] + 1);
            refusesBent(pair.board, row, n, row[n] - 1);
        }
        refusesBent(pair.board, row, 2, Boards.LARGE_P - row[2]);
        long[] ofAnother = pair.reference.shareByTheRules(1, 1234567890123456L, 99999999999L);
        Edge.refusesArgument("share made for 1, posted as that of 0", pair.board, () -> post(pair.board, 0, ofAnother));
        Check.answers("share as it should be", 2, () -> post(pair.board, 0, row));
    }

    /** Promise 9, "whether x is that of the KEY or not (if not, its proof fails, unless c is 0)". */
    private static void otherSecretsNeedTheChallengeZero() {
        long secret = 5555555555L;
        BallotBoard large = largeClosed(secret).board;
        Edge.refusesArgument("makeShare, large, x less 1", large, () -> large.makeShare(0, secret - 1, 9));
        Edge.refusesArgument("makeShare, large, x more 1", large, () -> large.makeShare(0, secret + 1, 9));
        Edge.refusesArgument("makeShare, large, x 0", large, () -> large.makeShare(0, 0, 9));
        Check.answers("makeShare, large, the KEY's x", 2, () -> large.makeShare(0, secret, 9));
        int taken = 0;
        for (int code = 0; code < 121; code++) {
            Pair pair = Boards.closed("c 0", 1, "1");
            long x = code % 11;
            long w = code / 11;
            long[] row = pair.reference.shareByTheRules(0, x, w);
            if (row[SHARE_C] == 0 && x != Boards.secret(0)) {
                Check.answers("makeShare(0, " + x + ", ..) with c 0", 2, () -> pair.board.makeShare(0, x, w));
                Check.answers("its c", 0, () -> pair.board.entry(2, SHARE_C));
                Check.answers("its audit()", -1, pair.board::audit);
                taken++;
            }
        }
        Check.holds("some have c 0", taken > 0);
    }

    /** "(1 without any)": A is 1 then, and so is every s by the rules. */
    private static void sharesHoldWithoutBallots() {
        BallotBoard board = Boards.closed("no ballots", 2, "").board;
        Check.answers("share of 0", 2, () -> board.makeShare(0, Boards.secret(0), 4));
        Check.answers("share of 1", 3, () -> board.makeShare(1, Boards.secret(1), 4));
        Check.answers("s of 0", 1, () -> board.entry(2, 2));
        Check.answers("s of 1", 1, () -> board.entry(3, 2));
        Check.answers("result()", 0, board::result);
        Check.answers("audit()", -1, board::audit);
    }

    /** Promise 10, "it is not closed, or not all SHARES are there". */
    private static void resultNeedsAllShares() {
        for (int n = 1; n <= 4; n++) {
            BallotBoard board = Boards.begun("result of " + n, n).board;
            Edge.refusesState("result() without keys", board, board::result);
            for (int i = 0; i < n; i++) {
                board.makeKey(i, Boards.secret(i), 1);
            }
            Edge.refusesState("result() without ballots", board, board::result);
            board.makeBallot(1, true, 1, 2, 3, 4);
            Edge.refusesState("result(), open", board, board::result);
            board.close();
            for (int i = 0; i < n; i++) {
                Edge.refusesState("result() with " + i + " shares of " + n, board, board::result);
                board.makeShare(i, Boards.secret(i), 1);
            }
            Check.answers("result() with all shares of " + n, 1, board::result);
            Check.answers("result() once more", 1, board::result);
        }
    }

    /** "the least m, 0 to how many BALLOTS COUNT (that, too)". */
    private static void resultIsFromZeroToTheCount() {
        String[] votes = {"", "0", "1", "00", "10", "11", "000", "111", "0000000000", "1111111111", "1111111110"};
        long[] due = {0, 0, 1, 0, 1, 2, 0, 3, 0, 10, 9};
        for (int i = 0; i < votes.length; i++) {
            BallotBoard board = Boards.shared("votes " + votes[i], 2, votes[i]).board;
            Check.answers("result() of '" + votes[i] + "'", due[i], board::result);
        }
    }

    /** "with g ** m = B / (product of all s); -1 if there is none": each s that has a proof, so each m below q. */
    private static void resultIsNoneBeyondTheCount() {
        String[] votes = {"", "0", "11", "010", "111111111", "1111111111"};
        for (String vote : votes) {
            int none = 0;
            long s = 1;
            for (int power = 0; power < Boards.Q; power++) {
                BallotBoard board = Boards.closed("votes " + vote, 1, vote).board;
                if (takeSomeShare(board, s, Boards.Q)) {
                    long m = leastPower(board.count(5), s);
                    boolean found = m <= vote.length();
                    none += found ? 0 : 1;
                    Check.answers("result() of '" + vote + "' where m is " + m, found ? m : -1, board::result);
                } else {
                    Check.holds("a share with s " + s + " is found", false);
                }
                s = s * Boards.G % Boards.P;
            }
            Check.holds("'" + vote + "': none for " + none, none == Boards.Q - 1 - vote.length());
        }
    }

    private static long leastPower(long product, long s) {
        long reached = s;
        long m = 0;
        while (reached != product) {
            reached = reached * Boards.G % Boards.P;
            m++;
        }
        return m;
    }

    /** "the least m", where g ** q is 1 again: q is 3 here. */
    private static void resultIsTheLeastWhereItWrapsAround() {
        long[] due = {0, 1, 2, 0, 1, 2, 0};
        for (int yes = 0; yes < due.length; yes++) {
            BallotBoard board = Boards.begunWith(7);
            board.makeKey(0, 2, 1);
            for (int i = 0; i < yes; i++) {
                board.makeBallot(i, true, i % 3, 1, 2, 0);
            }
            board.close();
            board.makeShare(0, 2, 0);
            Check.answers("result() of " + yes + " yes, q is 3", due[yes], board::result);
        }
    }

    /** "0 to how many BALLOTS COUNT (that, too)" with every VOTER: 63 and 64 of 64, none of 64. */
    private static void resultOfAllVoters() {
        for (int no = 0; no <= 64; no += no == 0 ? 1 : 63) {
            BallotBoard board = Boards.begunWith(Boards.LARGE_P);
            board.makeKey(0, 77, 1);
            for (int i = 0; i < 64; i++) {
                board.makeBallot(i, i >= no, 5L + i, 1, 2, 3);
            }
            Check.answers("close() of all", 64, board::close);
            board.makeShare(0, 77, 9);
            Check.answers("result() with " + no + " no", 64 - no, board::result);
        }
    }

    private static Pair largeClosed(long secret) {
        Pair pair = Boards.large("large, closed", 1);
        pair.makeKey(0, secret, 1);
        pair.makeBallot(0, true, 998244353L, 1, 2, 3);
        pair.close();
        return pair;
    }

    private static void refusesBent(BallotBoard board, long[] row, int n, long number) {
        long[] bent = Boards.with(row, n, number);
        Edge.refusesArgument("share, number " + n + " is " + number, board, () -> post(board, 0, bent));
    }

    private static long post(BallotBoard board, int i, long[] row) {
        return board.share(i, row[2], row[SHARE_C], row[SHARE_Z]);
    }
}
