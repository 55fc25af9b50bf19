/** Promises 11 to 15: entry, chain, spoil, audit, count. */
public final class BoardAndAuditTest {
    private BoardAndAuditTest() {
    }

    public static void main(String[] args) {
        entryTellsEachNumber();
        entryRefusesWhatIsNotThere();
        chainIsThatOfTheLibrary();
        chainRefusesWhatIsNotThere();
        spoilChangesOneNumber();
        spoilLeavesAllElse();
        spoilRefusesWhatIsNotThere();
        chainGoesOnAsItWasMade();
        auditFindsEachSpoiledNumber();
        auditFindsTheFirst();
        auditAtEachStage();
        auditOfFullBoard();
        countAtEachStage();
        countRefusesOthers();
        Check.end();
    }

    private static void entryTellsEachNumber() {
        BallotBoard board = new BallotBoard();
        board.begin(23, 4, 1);
        board.makeKey(0, 3, 5);
        board.makeBallot(63, false, 5, 6, 7, 8);
        board.close();
        board.makeShare(0, 3, 4);
        long[] heads = {1, 0, 18, 2, 63, 12, 3, 0, 3};
        for (int k = 0; k < 3; k++) {
            for (int n = 0; n < 3; n++) {
                int entry = k;
                int number = n;
                Check.answers("entry(" + k + ", " + n + ")", heads[3 * k + n], () -> board.entry(entry, number));
            }
        }
        Check.answers("d of the ballot", 7, () -> board.entry(1, 6));
        Check.answers("y of the ballot", 8, () -> board.entry(1, 7));
        Boards.shared("entries", 4, "1011").everything();
    }

    private static void entryRefusesWhatIsNotThere() {
        BallotBoard board = Boards.shared("entry, edges", 1, "1").board;
        int[] ends = {5, 8, 5};
        for (int k = 0; k < 3; k++) {
            int entry = k;
            int end = ends[k];
            board.entry(k, end - 1);
            Check.refusesIndex("entry(" + k + ", " + end + ")", () -> board.entry(entry, end));
            Check.refusesIndex("entry(" + k + ", -1)", () -> board.entry(entry, -1));
            Check.refusesIndex("entry(" + k + ", least)", () -> board.entry(entry, Integer.MIN_VALUE));
            Check.refusesIndex("entry(" + k + ", most)", () -> board.entry(entry, Integer.MAX_VALUE));
        }
        int[] nowhere = {-1, 3, 153, 154, Integer.MIN_VALUE, Integer.MAX_VALUE};
        for (int k : nowhere) {
            Check.refusesIndex("entry(" + k + ", 0)", () -> board.entry(k, 0));
        }
    }

    private static void chainIsThatOfTheLibrary() {
        Pair pair = Boards.shared("chain", 3, "0110");
        for (int k = 0; k < 10; k++) {
            for (int word = 0; word < 4; word++) {
                pair.chain(k, word);
            }
        }
    }

    private static void chainRefusesWhatIsNotThere() {
        BallotBoard board = Boards.shared("chain, edges", 1, "1").board;
        int[] wrong = {-1, 4, 5, Integer.MIN_VALUE, Integer.MAX_VALUE};
        for (int word : wrong) {
            Check.refusesIndex("chain(1, " + word + ")", () -> board.chain(1, word));
        }
        int[] nowhere = {-1, 3, 154, Integer.MIN_VALUE, Integer.MAX_VALUE};
        for (int k : nowhere) {
            Check.refusesIndex("chain(" + k + ", 0)", () -> board.chain(k, 0));
        }
    }

    private static void spoilChangesOneNumber() {
        BallotBoard board = Boards.shared("spoil", 1, "11").board;
        long old = board.entry(1, 7);
        Check.answers("spoil", old, () -> board.spoil(1, 7, Long.MIN_VALUE));
        Check.answers("spoiled", Long.MIN_VALUE, () -> board.entry(1, 7));
        Check.answers("spoil again", Long.MIN_VALUE, () -> board.spoil(1, 7, -5));
        Check.answers("spoil back", -5, () -> board.spoil(1, 7, old));
        Check.answers("as before", old, () -> board.entry(1, 7));
        Check.answers("audit()", -1, board::audit);
    }

    private static void spoilLeavesAllElse() {
        int[] widths = {5, 5, 8, 8, 8, 5, 5};
        for (int k = 0; k < 7; k++) {
            for (int n = 2; n < widths[k]; n++) {
                Pair pair = Boards.shared("spoil(" + k + ", " + n + ")", 2, "101");
                pair.spoil(k, n, 13);
                pair.everything();
                Check.answers("spoil(" + k + ", " + n + "): result()", 2, pair.board::result);
            }
        }
        Pair open = Boards.withBallots("spoil, then go on", 2, "101");
        open.spoil(0, 2, 0);
        open.spoil(2, 2, -1);
        open.spoil(4, 3, 5);
        open.makeBallot(0, true, 5, 6, 7, 8);
        open.makeBallot(9, true, 5, 6, 7, 8);
        open.close();
        open.makeShare(0, Boards.secret(0), 1);
        open.makeShare(1, Boards.secret(1), 1);
        open.everything();
        Check.answers("spoil, then go on: result()", 3, open.board::result);
    }

    private static void spoilRefusesWhatIsNotThere() {
        Pair pair = Boards.shared("spoil, edges", 1, "1");
        int[] ends = {5, 8, 5};
        for (int k = 0; k < 3; k++) {
            int[] wrong = {-1, 0, 1, ends[k], Integer.MIN_VALUE, Integer.MAX_VALUE};
            for (int n : wrong) {
                int entry = k;
                Check.refusesIndex("spoil(" + k + ", " + n + ")", () -> pair.board.spoil(entry, n, 3));
            }
        }
        int[] nowhere = {-1, 3, 154, Integer.MIN_VALUE, Integer.MAX_VALUE};
        for (int k : nowhere) {
            Check.refusesIndex("spoil(" + k + ", 2)", () -> pair.board.spoil(k, 2, 3));
        }
        pair.everything();
    }

    private static void chainGoesOnAsItWasMade() {
        Pair pair = Boards.withBallots("chain of a spoiled board", 1, "1");
        pair.spoil(1, 4, 77);
        pair.makeBallot(1, false, 1, 2, 3, 4);
        pair.everything();
        Check.answers("audit() finds the spoiled one", 1, pair.board::audit);
        pair.spoil(1, 4, pair.reference.ballotByTheRules(0, true, 2, 1, 0, 4)[4]);
        Check.answers("audit() of the mended one", -1, pair.board::audit);
    }

    private static void auditFindsEachSpoiledNumber() {
        Pair pair = Boards.shared("audit", 2, "110");
        int[] widths = {5, 5, 8, 8, 8, 5, 5};
        for (int k = 0; k < 7; k++) {
            for (int n = 2; n < widths[k]; n++) {
                long old = pair.board.entry(k, n);
                long[] others = {old + 1, old - 1, 0, -1, 23, Long.MAX_VALUE};
                for (long other : others) {
                    pair.spoil(k, n, other);
                    Check.compare("audit, " + k + " " + n, old == other ? "-1" : String.valueOf(k), pair.audit());
                    pair.spoil(k, n, old);
                    Check.compare("audit, mended " + k + " " + n, "-1", pair.audit());
                }
            }
        }
    }

    private static void auditFindsTheFirst() {
        BallotBoard board = Boards.shared("audit, first", 2, "110").board;
        long six = board.spoil(6, 2, 0);
        Check.answers("6 spoiled", 6, board::audit);
        long two = board.spoil(2, 5, 99);
        Check.answers("2 and 6 spoiled", 2, board::audit);
        long four = board.spoil(4, 3, 99);
        Check.answers("2, 4 and 6 spoiled", 2, board::audit);
        board.spoil(2, 5, two);
        Check.answers("4 and 6 spoiled", 4, board::audit);
        board.spoil(4, 3, four);
        Check.answers("6 still spoiled", 6, board::audit);
        long zero = board.spoil(0, 2, 1);
        Check.answers("0 and 6 spoiled", 0, board::audit);
        board.spoil(6, 2, six);
        Check.answers("0 still spoiled", 0, board::audit);
        board.spoil(0, 2, zero);
        Check.answers("none spoiled", -1, board::audit);
    }

    private static void auditAtEachStage() {
        BallotBoard board = new BallotBoard();
        Check.refusesState("audit() without a group", board::audit);
        board.begin(23, 4, 2);
        Check.answers("audit() of nothing", -1, board::audit);
        board.makeKey(1, 3, 4);
        Check.answers("audit() of one key", -1, board::audit);
        board.makeKey(0, 5, 6);
        board.makeBallot(3, true, 1, 2, 3, 4);
        board.makeBallot(3, false, 1, 2, 3, 4);
        Check.answers("audit() of ballots", -1, board::audit);
        board.close();
        Check.answers("audit(), closed", -1, board::audit);
        board.makeShare(1, 3, 1);
        Check.answers("audit() of a share", -1, board::audit);
        board.makeShare(0, 5, 1);
        Check.answers("audit() of all", -1, board::audit);
        board.spoil(5, 4, -1);
        Check.answers("audit() of a spoiled share", 5, board::audit);
        board.begin(23, 4, 2);
        Check.answers("audit() after begin", -1, board::audit);
    }

    private static void auditOfFullBoard() {
        Pair pair = new Pair("fullest board");
        pair.begin(Boards.LARGE_P, 4, 4);
        for (int i = 0; i < 4; i++) {
            pair.makeKey(i, 1L << 10 * i, 3);
        }
        for (int k = 4; k < 150; k++) {
            pair.makeBallot(k % 64, k % 2 == 0, 1L << k % 60, k, 2, 3);
        }
        pair.close();
        for (int i = 0; i < 4; i++) {
            pair.makeShare(i, 1L << 10 * i, 3);
        }
        Check.answers("fullest board: count(6)", 154, () -> pair.board.count(6));
        pair.everything();
        pair.spoil(153, 4, 0);
        Check.compare("fullest board, last spoiled", "153", pair.audit());
    }

    private static void countAtEachStage() {
        Pair pair = new Pair("counts");
        pair.everything();
        counts(pair, 0, 0, 0, 0, 0, 0, 0, 0, 0, 0, 0);
        pair.begin(23, 4, 2);
        counts(pair, 23, 11, 4, 0, 0, 0, 0, 0, 0, 0, 0);
        pair.makeKey(0, 3, 5);
        counts(pair, 23, 11, 4, 0, 0, 0, 1, 0, 1, 0, 0);
        pair.makeKey(1, 7, 2);
        counts(pair, 23, 11, 4, 6, 0, 0, 2, 0, 2, 0, 0);
        pair.makeBallot(5, true, 1, 2, 3, 4);
        pair.makeBallot(5, true, 2, 2, 3, 4);
        counts(pair, 23, 11, 4, 6, 0, 0, 4, 1, 2, 0, 0);
        pair.close();
        // 4 ** 2 is 16; 6 ** 2 * 4 leaves 6.
        counts(pair, 23, 11, 4, 6, 16, 6, 4, 1, 2, 0, 1);
        pair.makeShare(1, 7, 1);
        counts(pair, 23, 11, 4, 6, 16, 6, 5, 1, 2, 1, 1);
        pair.makeShare(0, 3, 1);
        counts(pair, 23, 11, 4, 6, 16, 6, 6, 1, 2, 2, 1);
        pair.spoil(0, 2, 1);
        pair.spoil(3, 2, 1);
        counts(pair, 23, 11, 4, 6, 16, 6, 6, 1, 2, 2, 1);
        pair.everything();
    }

    private static void counts(Pair pair, long... due) {
        for (int what = 0; what < due.length; what++) {
            int asked = what;
            Check.answers("count(" + what + ") with " + due[6] + " entries", due[what], () -> pair.board.count(asked));
        }
    }

    private static void countRefusesOthers() {
        BallotBoard board = Boards.shared("count, edges", 1, "1").board;
        int[] wrong = {-1, 11, 12, Integer.MIN_VALUE, Integer.MAX_VALUE};
        for (int what : wrong) {
            Check.refusesArgument("count(" + what + ")", () -> board.count(what));
        }
    }
}
