/** Promises 5 to 7: ballot, makeBallot, close. */
public final class BallotsTest {
    private BallotsTest() {
    }

    public static void main(String[] args) {
        ballotTakesJustWhatIsProved();
        ballotTakesWhatTheRulesMake();
        ballotLooksAtTheStateFirst();
        ballotRefusesWrongNumbers();
        ballotsEndAtTheRim();
        makeBallotGoesByTheRules();
        makeBallotRefusesWrongNumbers();
        latestBallotCounts();
        closeCountsBallots();
        closeLooksAtTheState();
        Check.end();
    }

    /** Every ballot about the smallest group; those that are taken count for voter 0 alone. */
    private static void ballotTakesJustWhatIsProved() {
        Pair pair = smallest();
        for (int code = 0; code < 9 * 9 * 256; code++) {
            int exponents = code % 256;
            int elements = code / 256;
            long[] row = {2, 0, elements % 9, elements / 9, exponents % 4, exponents / 4 % 4, exponents / 16 % 4, exponents / 64};
            pair.ballot(0, row);
            if (pair.reference.count(6) == 150) {
                pair.close();
                pair.count(4);
                pair.count(5);
                pair = smallest();
            }
        }
        pair.everything();
    }

    private static Pair smallest() {
        Pair pair = new Pair("every ballot of 7");
        pair.begin(7, 2, 1);
        pair.makeKey(0, 2, 1);
        return pair;
    }

    private static void ballotTakesWhatTheRulesMake() {
        Pair pair = new Pair("large ballots");
        pair.begin(Boards.LARGE_P, 9, 2);
        pair.makeKey(0, 1111111111111111111L, 5);
        pair.makeKey(1, Boards.LARGE_Q - 1, 0);
        long[] yes = pair.reference.ballotByTheRules(63, true, 77777777777777777L, 1, Boards.LARGE_Q - 1, 0);
        long[] no = pair.reference.ballotByTheRules(0, false, Boards.LARGE_Q - 2, 31, 0, Boards.LARGE_Q - 1);
        Check.compare("ballot of 63", "2", pair.ballot(63, yes));
        Check.compare("ballot of 0", "3", pair.ballot(0, no));
        Check.compare("another voter's ballot", "throws.IllegalArgumentException", pair.ballot(1, no));
        pair.everything();
    }

    private static void ballotLooksAtTheStateFirst() {
        Pair pair = Boards.begun("ballot, state", 2);
        Check.refusesState("ballot without keys", () -> pair.board.ballot(-1, 0, 0, -1, 0, 0, 0));
        Check.refusesState("makeBallot without keys", () -> pair.board.makeBallot(64, true, -1, 0, 0, 0));
        pair.makeKey(1, 5, 5);
        Check.refusesState("ballot with one key of two", () -> pair.board.ballot(0, 1, 1, 0, 0, 0, 0));
        Check.refusesState("makeBallot with one key of two", () -> pair.board.makeBallot(0, true, 0, 0, 0, 0));
        pair.makeKey(0, 6, 6);
        Check.answers("makeBallot with all keys", 2, () -> pair.board.makeBallot(0, true, 0, 0, 0, 0));
        Check.answers("close()", 1, pair.board::close);
        Check.refusesState("ballot, closed", () -> pair.board.ballot(-1, 1, 1, -1, 0, 0, 0));
        Check.refusesState("makeBallot, closed", () -> pair.board.makeBallot(-1, true, -1, 0, 0, 0));
    }

    private static void ballotRefusesWrongNumbers() {
        Pair pair = new Pair("wrong ballots");
        pair.begin(Boards.LARGE_P, 4, 1);
        pair.makeKey(0, 987654321L, 55);
        long[] good = pair.reference.ballotByTheRules(7, true, 1234567L, 7654321L, 1, 2);
        long[] wrong = {0, 1, -1, Boards.LARGE_Q, Boards.LARGE_P, Boards.LARGE_P - 1, Long.MIN_VALUE, Long.MAX_VALUE};
        for (int n = 2; n < 8; n++) {
            for (long number : wrong) {
                pair.ballot(7, with(good, n, number));
            }
            pair.ballot(7, with(good, n, good[n] + 1));
            pair.ballot(7, with(good, n, Boards.LARGE_P - good[n]));
            pair.ballot(7, with(good, n, good[n] + Boards.LARGE_Q));
            pair.ballot(7, with(good, n, good[n] + Boards.LARGE_P));
        }
        int[] nobody = {-1, 64, Integer.MIN_VALUE, Integer.MAX_VALUE};
        for (int i : nobody) {
            pair.ballot(i, good);
        }
        pair.everything();
        pair.ballot(7, good);
        pair.everything();
    }

    private static long[] with(long[] row, int n, long number) {
        long[] bent = row.clone();
        bent[n] = number;
        return bent;
    }

    private static void ballotsEndAtTheRim() {
        Pair pair = Boards.full("full board");
        Check.answers("full board: count(6)", 150, () -> pair.board.count(6));
        Check.refusesIndex("full board: makeBallot", () -> pair.board.makeBallot(0, true, 1, 1, 1, 1));
        Check.refusesIndex("full board: makeBallot, wrong i", () -> pair.board.makeBallot(64, true, -1, 1, 1, 1));
        Check.refusesIndex("full board: ballot, wrong i and c", () -> pair.board.ballot(-1, 0, 0, -1, 0, 0, 0));
        Check.answers("full board: close()", 64, pair.board::close);
        Check.refusesState("full board, closed: ballot", () -> pair.board.ballot(0, 1, 1, 0, 0, 0, 0));
        Check.refusesState("full board, closed: makeBallot", () -> pair.board.makeBallot(0, true, 1, 1, 1, 1));
        pair.reference.close();
        Check.compare("full board: makeShare", "150", pair.makeShare(0, Boards.secret(0), 4));
        pair.everything();
    }

    private static void makeBallotGoesByTheRules() {
        Pair pair = Boards.withKeys("makeBallot", 2);
        for (int code = 0; code < 11 * 11 * 11 * 11; code += 7) {
            if (pair.reference.count(6) == 150) {
                pair.everything();
                pair = Boards.withKeys("makeBallot", 2);
            }
            pair.makeBallot(code % 64, code % 2 == 0, code % 11, code / 11 % 11, code / 121 % 11, code / 1331);
        }
        pair.everything();
    }

    private static void makeBallotRefusesWrongNumbers() {
        Pair pair = Boards.withKeys("makeBallot, wrong", 1);
        BallotBoard board = pair.board;
        long[] wrong = {-1, 11, Long.MIN_VALUE, Long.MAX_VALUE};
        for (long number : wrong) {
            Check.refusesArgument("makeBallot, r " + number, () -> board.makeBallot(0, true, number, 1, 1, 1));
            Check.refusesArgument("makeBallot, w " + number, () -> board.makeBallot(0, false, 1, number, 1, 1));
            Check.refusesArgument("makeBallot, e " + number, () -> board.makeBallot(0, true, 1, 1, number, 1));
            Check.refusesArgument("makeBallot, f " + number, () -> board.makeBallot(0, false, 1, 1, 1, number));
        }
        Check.refusesArgument("makeBallot(-1, ..)", () -> board.makeBallot(-1, true, 1, 1, 1, 1));
        Check.refusesArgument("makeBallot(64, ..)", () -> board.makeBallot(64, true, 1, 1, 1, 1));
        pair.everything();
        Check.answers("makeBallot(63, ..)", 1, () -> board.makeBallot(63, true, 10, 10, 10, 10));
        Check.answers("makeBallot(0, ..)", 2, () -> board.makeBallot(0, false, 0, 0, 0, 0));
    }

    private static void latestBallotCounts() {
        Pair pair = Boards.withKeys("latest ballot", 1);
        pair.makeBallot(4, true, 1, 2, 3, 4);
        pair.makeBallot(5, true, 2, 2, 3, 4);
        pair.makeBallot(4, false, 3, 2, 3, 4);
        pair.makeBallot(5, false, 4, 2, 3, 4);
        pair.makeBallot(5, true, 5, 2, 3, 4);
        Check.answers("latest ballot: count(7)", 2, () -> pair.board.count(7));
        Check.answers("latest ballot: count(6)", 6, () -> pair.board.count(6));
        pair.close();
        // 4 ** (3 + 5) leaves 9 divided by 23.
        Check.answers("latest ballot: A", 9, () -> pair.board.count(4));
        pair.makeShare(0, Boards.secret(0), 1);
        Check.answers("latest ballot: result()", 1, pair.board::result);
        pair.everything();
    }

    private static void closeCountsBallots() {
        Check.answers("close() of none", 0, Boards.withKeys("close", 3).board::close);
        Check.answers("close() of three", 3, Boards.withBallots("close", 1, "010").board::close);
        Pair pair = Boards.withKeys("close of all", 1);
        for (int i = 0; i < 64; i++) {
            pair.makeBallot(i, true, 1, 2, 3, i % Boards.Q);
        }
        Check.answers("close() of all", 64, pair.board::close);
    }

    private static void closeLooksAtTheState() {
        Pair pair = Boards.begun("close, state", 2);
        Check.refusesState("close() without keys", pair.board::close);
        pair.makeKey(1, 1, 1);
        Check.refusesState("close() with one key of two", pair.board::close);
        Check.answers("still open", 0, () -> pair.board.count(10));
        pair.makeKey(0, 1, 1);
        Check.answers("close()", 0, pair.board::close);
        Check.answers("closed", 1, () -> pair.board.count(10));
        Check.refusesState("close() again", pair.board::close);
    }
}
