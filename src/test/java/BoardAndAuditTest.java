/** Promises 11 to 15: entry, chain, spoil, audit, count. */
public final class BoardAndAuditTest {
    private BoardAndAuditTest() {
    }

    public static void main(String[] args) {
        entryTellsEachNumber();
        chainIsThatOfTheLibrary();
        spoilLeavesAllElse();
        chainGoesOnAsItWasMade();
        auditFindsEachSpoiledNumber();
        auditOfFullBoard();
        Check.end();
    }

    private static void entryTellsEachNumber() {
        BallotBoard board = new BallotBoard();
        board.begin(23, 4, 1);
        board.makeKey(0, 3, 5);
        board.makeBallot(63, false, 5, 6, 7, 8);
        board.close();
        board.makeShare(0, 3, 4);
        long[] heads = {1, 0, 18, 2, 63, 12, 3, 0, 3};
        for (int k = 0; k < 3; k++) {
            for (int n = 0; n < 3; n++) {
                int entry = k;
                int number = n;
                Check.answers("entry(" + k + ", " + n + ")", heads[3 * k + n], () -> board.entry(entry, number));
            }
        }
        Check.answers("d of the ballot", 7, () -> board.entry(1, 6));
        Check.answers("y of the ballot", 8, () -> board.entry(1, 7));
        Boards.shared("entries", 4, "1011").everything();
    }

    private static void chainIsThatOfTheLibrary() {
        Pair pair = Boards.shared("chain", 3, "0110");
        for (int k = 0; k < 10; k++) {
            for (int word = 0; word < 4; word++) {
                pair.chain(k, word);
            }
        }
    }

    private static void spoilLeavesAllElse() {
        int[] widths = {5, 5, 8, 8, 8, 5, 5};
        for (int k = 0; k < 7; k++) {
            for (int n = 2; n < widths[k]; n++) {
                Pair pair = Boards.shared("spoil(" + k + ", " + n + ")", 2, "101");
                pair.spoil(k, n, 13);
                pair.everything();
                Check.answers("spoil(" + k + ", " + n + "): result()", 2, pair.board::result);
            }
        }
        Pair open = Boards.withBallots("spoil, then go on", 2, "101");
        open.spoil(0, 2, 0);
        open.spoil(2, 2, -1);
        open.spoil(4, 3, 5);
        open.makeBallot(0, true, 5, 6, 7, 8);
        open.makeBallot(9, true, 5, 6, 7, 8);
        open.close();
        open.makeShare(0, Boards.secret(0), 1);
        open.makeShare(1, Boards.secret(1), 1);
        open.everything();
        Check.answers("spoil, then go on: result()", 3, open.board::result);
    }

    private static void chainGoesOnAsItWasMade() {
        Pair pair = Boards.withBallots("chain of a spoiled board", 1, "1");
        pair.spoil(1, 4, 77);
        pair.makeBallot(1, false, 1, 2, 3, 4);
        pair.everything();
        Check.answers("audit() finds the spoiled one", 1, pair.board::audit);
        pair.spoil(1, 4, pair.reference.ballotByTheRules(0, true, 2, 1, 0, 4)[4]);
        Check.answers("audit() of the mended one", -1, pair.board::audit);
    }

    private static void auditFindsEachSpoiledNumber() {
        Pair pair = Boards.shared("audit", 2, "110");
        int[] widths = {5, 5, 8, 8, 8, 5, 5};
        for (int k = 0; k < 7; k++) {
            for (int n = 2; n < widths[k]; n++) {
                long old = pair.board.entry(k, n);
                long[] others = {old + 1, old - 1, 0, -1, 23, Long.MAX_VALUE};
                for (long other : others) {
                    pair.spoil(k, n, other);
                    Check.compare("audit, " + k + " " + n, old == other ? "-1" : String.valueOf(k), pair.audit());
                    pair.spoil(k, n, old);
                    Check.compare("audit, mended " + k + " " + n, "-1", pair.audit());
                }
            }
        }
    }

    private static void auditOfFullBoard() {
        Pair pair = new Pair("fullest board");
        pair.begin(Boards.LARGE_P, 4, 4);
        for (int i = 0; i < 4; i++) {
            pair.makeKey(i, 1L << 10 * i, 3);
        }
        for (int k = 4; k < 150; k++) {
            pair.makeBallot(k % 64, k % 2 == 0, 1L << k % 60, k, 2, 3);
        }
        pair.close();
        for (int i = 0; i < 4; i++) {
            pair.makeShare(i, 1L << 10 * i, 3);
        }
        Check.answers("fullest board: count(6)", 154, () -> pair.board.count(6));
        pair.everything();
        pair.spoil(153, 4, 0);
        Check.compare("fullest board, last spoiled", "153", pair.audit());
    }
}
