import java.nio.ByteBuffer;
import java.security.MessageDigest;
import java.security.NoSuchAlgorithmException;

/** The boundaries that the document tells of THE BOARD, THE CHAIN, THE AUDITOR and counts (promises 11 to 15); each test quotes its sentence. */
public final class BoardEdgesTest {
    /** The numbers of each ENTRY of Boards.shared(.., 2, "101"). */
    private static final int[] WIDTHS = {5, 5, 8, 8, 8, 5, 5};
    private static final int[] FAR = {-1, Integer.MIN_VALUE, Integer.MAX_VALUE, -2, 154, 155, 1 << 16, -1 << 16};

    private BoardEdgesTest() {
    }

    public static void main(String[] args) {
        entriesAreFromZeroOn();
        entriesAreUpToOneHundredFiftyFour();
        entriesOfAnEarlierElectionAreNone();
        numbersOfEntriesHaveBounds();
        wordsOfTheChainHaveBounds();
        firstChainStandsOnZero();
        chainIsThatAsItWasMade();
        spoilLeavesKindAndWho();
        spoilHasTheBoundsOfEntry();
        spoilTakesAnyNumber();
        spoilLeavesAllButEntryAndAudit();
        spoilLeavesWhatFollows();
        auditOfNothing();
        auditFindsTheFirstAndTheLast();
        auditFindsTheFirstOfTwo();
        auditFindsNothingWhereTheNumberIsTheSame();
        countsHaveBounds();
        countsAreZeroForWhatIsNotThere();
        lastCallIsTheFiveHundredTwelfth();
        Check.end();
    }

    /** "THE BOARD has ENTRIES 0, 1 ..", promise 11, "there is none": the bound moves with each ENTRY. */
    private static void entriesAreFromZeroOn() {
        BallotBoard board = new BallotBoard();
        endsAt(board, 0);
        board.begin(23, 4, 2);
        endsAt(board, 0);
        board.makeKey(1, 3, 4);
        endsAt(board, 1);
        board.makeKey(0, 5, 6);
        endsAt(board, 2);
        board.makeBallot(9, true, 1, 2, 3, 4);
        endsAt(board, 3);
        board.makeBallot(9, true, 1, 2, 3, 4);
        endsAt(board, 4);
        board.close();
        endsAt(board, 4);
        board.makeShare(0, 5, 6);
        endsAt(board, 5);
        board.makeShare(1, 3, 4);
        endsAt(board, 6);
    }

    private static void endsAt(BallotBoard board, int size) {
        Check.answers("count(6)", size, () -> board.count(6));
        if (size > 0) {
            Check.holds("entry " + (size - 1) + " is there", !Check.outcome(() -> board.entry(size - 1, 0)).startsWith("throws"));
            Check.holds("its chain is there", !Check.outcome(() -> board.chain(size - 1, 0)).startsWith("throws"));
        }
        isNoEntry(board, size);
        isNoEntry(board, size + 1);
        for (int k : FAR) {
            isNoEntry(board, k);
        }
    }

    private static void isNoEntry(BallotBoard board, int k) {
        Edge.refusesIndex("entry(" + k + ", 0)", board, () -> board.entry(k, 0));
        Edge.refusesIndex("entry(" + k + ", 2)", board, () -> board.entry(k, 2));
        Edge.refusesIndex("entry(" + k + ", -1)", board, () -> board.entry(k, -1));
        Edge.refusesIndex("chain(" + k + ", 0)", board, () -> board.chain(k, 0));
        Edge.refusesIndex("chain(" + k + ", 4)", board, () -> board.chain(k, 4));
        Edge.refusesIndex("spoil(" + k + ", 2, 1)", board, () -> board.spoil(k, 2, 1));
        Edge.refusesIndex("spoil(" + k + ", 0, 1)", board, () -> board.spoil(k, 0, 1));
    }

    /** "ENTRIES 0, 1 .. (up to 154)": 150, and the SHARES of 4 TRUSTEES. */
    private static void entriesAreUpToOneHundredFiftyFour() {
        BallotBoard board = fullest();
        Check.answers("fullest: count(6)", 154, () -> board.count(6));
        Check.answers("fullest: KIND of 153", 3, () -> board.entry(153, 0));
        Check.answers("fullest: WHO of 153", 3, () -> board.entry(153, 1));
        Check.answers("fullest: KIND of 149", 2, () -> board.entry(149, 0));
        Check.answers("fullest: KIND of 150", 3, () -> board.entry(150, 0));
        endsAt(board, 154);
        Check.answers("fullest: audit()", -1, board::audit);
        long was = board.entry(153, 4);
        Check.answers("fullest: spoil(153, 4, -1)", was, () -> board.spoil(153, 4, -1));
        Check.answers("fullest, last spoiled: audit()", 153, board::audit);
    }

    private static BallotBoard fullest() {
        BallotBoard board = new BallotBoard();
        board.begin(23, 4, 4);
        for (int i = 0; i < 4; i++) {
            board.makeKey(i, Boards.secret(i), 1);
        }
        for (int k = 4; k < 150; k++) {
            board.makeBallot(k % 64, k % 2 == 0, k % 11, 2, 3, 4);
        }
        board.close();
        for (int i = 0; i < 4; i++) {
            board.makeShare(i, Boards.secret(i), 1);
        }
        return board;
    }

    /** "All anew": what stood on THE BOARD before begin() is none any more. */
    private static void entriesOfAnEarlierElectionAreNone() {
        BallotBoard board = fullest();
        board.begin(23, 4, 1);
        endsAt(board, 0);
        isNoEntry(board, 153);
        board.makeKey(0, 3, 4);
        endsAt(board, 1);
        isNoEntry(board, 153);
    }

    /** Promise 11, "0 KIND, 1 WHO, then its numbers .. three, of a BALLOT six". */
    private static void numbersOfEntriesHaveBounds() {
        BallotBoard board = Boards.shared("numbers", 2, "101").board;
        int[] far = {-1, -2, 8, 9, Integer.MIN_VALUE, Integer.MAX_VALUE, 1 << 16};
        for (int k = 0; k < WIDTHS.length; k++) {
            int entry = k;
            int width = WIDTHS[k];
            for (int n = 0; n < width; n++) {
                int number = n;
                Check.holds("entry(" + k + ", " + n + ") is there", !Check.outcome(() -> board.entry(entry, number)).startsWith("throws"));
            }
            for (int n = width; n < 8; n++) {
                int number = n;
                Edge.refusesIndex("entry(" + k + ", " + n + ")", board, () -> board.entry(entry, number));
            }
            for (int n : far) {
                Edge.refusesIndex("entry(" + k + ", " + n + ")", board, () -> board.entry(entry, n));
            }
        }
    }

    /** Promise 12, "(word 0 to 3)". */
    private static void wordsOfTheChainHaveBounds() {
        BallotBoard board = Boards.shared("words", 2, "101").board;
        int[] far = {-1, -2, 4, 5, Integer.MIN_VALUE, Integer.MAX_VALUE, 1 << 16};
        for (int k = 0; k < WIDTHS.length; k++) {
            int entry = k;
            byte[] due = chainOf(board, k);
            for (int word = 0; word < 4; word++) {
                int asked = word;
                Check.answers("chain(" + k + ", " + word + ")", ByteBuffer.wrap(due).getLong(8 * word), () -> board.chain(entry, asked));
            }
            for (int word : far) {
                Edge.refusesIndex("chain(" + k + ", " + word + ")", board, () -> board.chain(entry, word));
            }
        }
    }

    /** The SHA-256 that is due, out of what entry() and chain() tell. */
    private static byte[] chainOf(BallotBoard board, int k) {
        int width = board.entry(k, 0) == 2 ? 8 : 5;
        ByteBuffer octets = ByteBuffer.allocate(32 + 8 * width);
        for (int word = 0; word < 4; word++) {
            octets.putLong(k == 0 ? 0 : board.chain(k - 1, word));
        }
        for (int n = 0; n < width; n++) {
            octets.putLong(board.entry(k, n));
        }
        try {
            return MessageDigest.getInstance("SHA-256").digest(octets.array());
        } catch (NoSuchAlgorithmException e) {
            throw new AssertionError(e);
        }
    }

    /** "(32 octets, 0 for the first one)": also for the first one after begin(). */
    private static void firstChainStandsOnZero() {
        BallotBoard board = Boards.shared("first chain", 1, "11").board;
        board.begin(23, 4, 2);
        board.makeKey(1, 10, 10);
        board.makeKey(0, 10, 10);
        for (int k = 0; k < 2; k++) {
            int entry = k;
            Check.answers("chain(" + k + ", 0) after begin", ByteBuffer.wrap(chainOf(board, k)).getLong(), () -> board.chain(entry, 0));
        }
        BallotBoard other = new BallotBoard();
        other.begin(23, 4, 2);
        other.makeKey(1, 10, 10);
        Check.answers("chain(0, 3) of a new object", board.chain(0, 3), () -> other.chain(0, 3));
    }

    /** "that of ENTRY k - 1 as it was made": numbers that were spoiled since do not matter. */
    private static void chainIsThatAsItWasMade() {
        BallotBoard spoiled = Boards.withBallots("chain", 1, "10").board;
        BallotBoard whole = Boards.withBallots("chain", 1, "10").board;
        for (int n = 2; n < 8; n++) {
            spoiled.spoil(2, n, -n);
        }
        spoiled.spoil(0, 4, 99);
        Check.answers("entry after a spoiled one", 3, () -> spoiled.makeBallot(5, true, 5, 6, 7, 8));
        whole.makeBallot(5, true, 5, 6, 7, 8);
        chainsAreThoseOf(whole, spoiled);
        spoiled.spoil(0, 4, whole.entry(0, 4));
        Check.answers("audit() with entry 2 spoiled", 2, spoiled::audit);
        for (int n = 2; n < 8; n++) {
            spoiled.spoil(2, n, whole.entry(2, n));
        }
        Check.answers("audit() with none spoiled", -1, spoiled::audit);
    }

    private static void chainsAreThoseOf(BallotBoard whole, BallotBoard board) {
        for (int k = 0; k < whole.count(6); k++) {
            for (int word = 0; word < 4; word++) {
                int entry = k;
                int asked = word;
                Check.answers("chain(" + k + ", " + word + ")", whole.chain(k, word), () -> board.chain(entry, asked));
            }
        }
    }

    /** Promise 13, "(2 and more; 0 and 1 are none here)". */
    private static void spoilLeavesKindAndWho() {
        BallotBoard board = Boards.shared("kind and who", 2, "101").board;
        for (int k = 0; k < WIDTHS.length; k++) {
            int entry = k;
            Edge.refusesIndex("spoil(" + k + ", 0, 1)", board, () -> board.spoil(entry, 0, 1));
            Edge.refusesIndex("spoil(" + k + ", 1, 1)", board, () -> board.spoil(entry, 1, 1));
            long was = board.entry(k, 2);
            Check.answers("spoil(" + k + ", 2, 1)", was, () -> board.spoil(entry, 2, 1));
        }
    }

    /** Promise 13, "IndexOutOfBoundsException likewise". */
    private static void spoilHasTheBoundsOfEntry() {
        BallotBoard board = Boards.shared("spoil", 2, "101").board;
        int[] far = {-1, -2, 8, 9, Integer.MIN_VALUE, Integer.MAX_VALUE, 1 << 16};
        for (int k = 0; k < WIDTHS.length; k++) {
            int entry = k;
            int last = WIDTHS[k] - 1;
            for (int n = last + 1; n < 8; n++) {
                int number = n;
                Edge.refusesIndex("spoil(" + k + ", " + n + ", 1)", board, () -> board.spoil(entry, number, 1));
            }
            for (int n : far) {
                Edge.refusesIndex("spoil(" + k + ", " + n + ", 1)", board, () -> board.spoil(entry, n, 1));
            }
            long was = board.entry(k, last);
            Check.answers("spoil(" + k + ", " + last + ", 77)", was, () -> board.spoil(entry, last, 77));
            Check.answers("entry(" + k + ", " + last + ")", 77, () -> board.entry(entry, last));
        }
    }

    /** Promise 13, "is another one from now on .. what it was": the number is not looked at. */
    private static void spoilTakesAnyNumber() {
        BallotBoard board = Boards.shared("any number", 2, "101").board;
        long[] numbers = {Long.MIN_VALUE, -1, 0, 1, 10, 11, 22, 23, Long.MAX_VALUE};
        for (int k = 0; k < WIDTHS.length; k++) {
            for (int n = 2; n < WIDTHS[k]; n++) {
                int entry = k;
                int number = n;
                long first = board.entry(k, n);
                long before = first;
                for (long v : numbers) {
                    long due = before;
                    Check.answers("spoil(" + k + ", " + n + ", " + v + ")", due, () -> board.spoil(entry, number, v));
                    Check.answers("entry(" + k + ", " + n + ")", v, () -> board.entry(entry, number));
                    Check.answers("audit()", v == first ? -1 : k, board::audit);
                    before = v;
                }
                board.spoil(k, n, first);
            }
        }
        Check.answers("audit() with all put back", -1, board::audit);
    }

    /** Promise 13, "THE CHAIN, and all but THE AUDITOR's word and entry(), stays". */
    private static void spoilLeavesAllButEntryAndAudit() {
        BallotBoard whole = Boards.shared("whole", 2, "101").board;
        for (int k = 0; k < WIDTHS.length; k++) {
            for (int n = 2; n < WIDTHS[k]; n++) {
                BallotBoard board = Boards.shared("spoiled", 2, "101").board;
                long was = board.spoil(k, n, Long.MIN_VALUE);
                staysAs(whole, board);
                Check.answers("audit() with " + k + ", " + n + " spoiled", k, board::audit);
                board.spoil(k, n, was);
                Check.compare("put back", Snapshot.of(whole), Snapshot.of(board));
            }
        }
    }

    private static void staysAs(BallotBoard whole, BallotBoard board) {
        for (int what = 0; what <= 10; what++) {
            int asked = what;
            Check.answers("spoiled: count(" + what + ")", whole.count(what), () -> board.count(asked));
        }
        Check.answers("spoiled: result()", whole.result(), board::result);
        chainsAreThoseOf(whole, board);
    }

    /** The same where the election goes on behind the spoiling: each ENTRY is spoiled as soon as it is there. */
    private static void spoilLeavesWhatFollows() {
        BallotBoard whole = Boards.shared("whole", 2, "101").board;
        BallotBoard board = Boards.begun("spoiled at once", 2).board;
        spoilLast(board.makeKey(0, Boards.secret(0), 1), board);
        spoilLast(board.makeKey(1, Boards.secret(1), 2), board);
        for (int i = 0; i < 3; i++) {
            spoilLast(board.makeBallot(i, i != 1, i + 2, 3 * i + 1, 5 * i % 11, (7 * i + 4) % 11), board);
        }
        Check.answers("spoiled at once: close()", 3, board::close);
        spoilLast(board.makeShare(0, Boards.secret(0), 2), board);
        spoilLast(board.makeShare(1, Boards.secret(1), 6), board);
        staysAs(whole, board);
        for (int k = WIDTHS.length - 1; k >= 0; k--) {
            Check.answers("audit() with entries 0 to " + k + " spoiled", 0, board::audit);
            for (int n = 2; n < WIDTHS[k]; n++) {
                board.spoil(k, n, whole.entry(k, n));
            }
        }
        Check.compare("all put back", Snapshot.of(whole), Snapshot.of(board));
    }

    private static void spoilLast(int k, BallotBoard board) {
        for (int n = 2; n < WIDTHS[k]; n++) {
            board.spoil(k, n, 13 + n);
        }
    }

    /** Promise 14, "there is no GROUP": with one and no ENTRY all is as it should be. */
    private static void auditOfNothing() {
        BallotBoard board = new BallotBoard();
        Edge.refusesState("audit() without a group", board, board::audit);
        Check.outcome(() -> board.begin(23, 4, 9));
        Edge.refusesState("audit() behind a refused begin", board, board::audit);
        board.begin(23, 4, 1);
        Check.answers("audit() of no entries", -1, board::audit);
        board.makeKey(0, 3, 4);
        Check.answers("audit() of one entry", -1, board::audit);
        board.spoil(0, 3, -1);
        Check.answers("audit() of one spoiled entry", 0, board::audit);
        board.begin(23, 4, 1);
        Check.answers("audit() of no entries, anew", -1, board::audit);
    }

    /** Promise 14, "-1 if all is as it should be, else the number of the first ENTRY that is not": 0 and the last one, too. */
    private static void auditFindsTheFirstAndTheLast() {
        BallotBoard board = Boards.shared("audit", 2, "101").board;
        Check.answers("audit()", -1, board::audit);
        for (int k = 0; k < WIDTHS.length; k++) {
            long was = board.spoil(k, WIDTHS[k] - 1, 12345);
            Check.answers("audit(), " + k + " spoiled", k, board::audit);
            Check.answers("audit() again", k, board::audit);
            board.spoil(k, WIDTHS[k] - 1, was);
            Check.answers("audit(), " + k + " put back", -1, board::audit);
        }
    }

    /** The same with two that are not as they should be, spoiled and put back in both orders. */
    private static void auditFindsTheFirstOfTwo() {
        for (int first = 0; first < WIDTHS.length; first++) {
            for (int second = 0; second < WIDTHS.length; second++) {
                BallotBoard board = Boards.shared("two", 2, "101").board;
                long one = board.spoil(first, 2, -7);
                Check.answers("audit(), " + first + " spoiled", first, board::audit);
                long two = board.spoil(second, 3, -8);
                Check.answers("audit(), " + second + ", too", Math.min(first, second), board::audit);
                board.spoil(first, 2, one);
                Check.answers("audit(), " + first + " put back", second, board::audit);
                board.spoil(second, 3, two);
                Check.answers("audit(), both put back", -1, board::audit);
            }
        }
    }

    /** Section 4, "not as it should be (out of what stands there now)": the same number is no change. */
    private static void auditFindsNothingWhereTheNumberIsTheSame() {
        BallotBoard board = Boards.shared("same number", 2, "101").board;
        for (int k = 0; k < WIDTHS.length; k++) {
            for (int n = 2; n < WIDTHS[k]; n++) {
                board.spoil(k, n, board.entry(k, n));
                Check.answers("audit(), " + k + ", " + n + " as it was", -1, board::audit);
            }
        }
    }

    /** Promise 15, "IllegalArgumentException for others": than 0 to 10. */
    private static void countsHaveBounds() {
        BallotBoard[] boards = {new BallotBoard(), Boards.begun("counts", 2).board, Boards.shared("counts", 2, "101").board};
        int[] others = {-1, -2, 11, 12, Integer.MIN_VALUE, Integer.MAX_VALUE, 1 << 16};
        for (BallotBoard board : boards) {
            for (int what : others) {
                Edge.refusesArgument("count(" + what + ")", board, () -> board.count(what));
            }
            for (int what = 0; what <= 10; what++) {
                int asked = what;
                Check.holds("count(" + what + ") is there", !Check.outcome(() -> board.count(asked)).startsWith("throws"));
            }
        }
    }

    /** Promise 15, "(0: not there; as they were when they were made)": at each step, and with a spoiled board. */
    private static void countsAreZeroForWhatIsNotThere() {
        BallotBoard board = new BallotBoard();
        counts("new", board, 0, 0, 0, 0, 0, 0, 0, 0, 0, 0, 0);
        board.begin(23, 4, 2);
        counts("begun", board, 23, 11, 4, 0, 0, 0, 0, 0, 0, 0, 0);
        board.makeKey(0, 3, 5);
        counts("one key", board, 23, 11, 4, 0, 0, 0, 1, 0, 1, 0, 0);
        board.makeKey(1, 7, 2);
        counts("all keys", board, 23, 11, 4, 6, 0, 0, 2, 0, 2, 0, 0);
        board.makeBallot(5, true, 1, 2, 3, 4);
        counts("one ballot", board, 23, 11, 4, 6, 0, 0, 3, 1, 2, 0, 0);
        board.makeBallot(5, true, 2, 2, 3, 4);
        counts("its voter again", board, 23, 11, 4, 6, 0, 0, 4, 1, 2, 0, 0);
        board.spoil(0, 2, 1);
        board.spoil(3, 2, 1);
        board.close();
        // 4 ** 2 is 16; 6 ** 2 * 4 leaves 6.
        counts("closed", board, 23, 11, 4, 6, 16, 6, 4, 1, 2, 0, 1);
        board.makeShare(1, 7, 1);
        counts("one share", board, 23, 11, 4, 6, 16, 6, 5, 1, 2, 1, 1);
        board.makeShare(0, 3, 1);
        counts("all shares", board, 23, 11, 4, 6, 16, 6, 6, 1, 2, 2, 1);
        board.spoil(3, 3, 1);
        board.spoil(4, 2, 1);
        counts("spoiled", board, 23, 11, 4, 6, 16, 6, 6, 1, 2, 2, 1);
        board.begin(7, 2, 1);
        counts("anew", board, 7, 3, 2, 0, 0, 0, 0, 0, 0, 0, 0);
    }

    private static void counts(String told, BallotBoard board, long... due) {
        for (int what = 0; what < due.length; what++) {
            int asked = what;
            Check.answers(told + ": count(" + what + ")", due[what], () -> board.count(asked));
        }
    }

    /** "An object is used for at most 512 calls after it has been made": the last of them answers like the first. */
    private static void lastCallIsTheFiveHundredTwelfth() {
        BallotBoard board = new BallotBoard();
        board.begin(Boards.LARGE_P, 4, 2);
        board.makeKey(0, 77, 1);
        board.makeKey(1, 88, 1);
        for (int k = 2; k < 150; k++) {
            board.makeBallot(k % 64, true, 5L + k, 1, 2, 3);
        }
        board.close();
        board.makeShare(0, 77, 9);
        board.makeShare(1, 88, 9);
        Check.answers("call 155", 64, board::result);
        for (int call = 156; call <= 507; call += 3) {
            int k = call % 152;
            long was = board.spoil(k, 2, -call);
            Check.answers("call " + (call + 1), k, board::audit);
            Check.answers("call " + (call + 2), -call, () -> board.spoil(k, 2, was));
        }
        Check.answers("call 510", -1, board::audit);
        Check.answers("call 511", 64, board::result);
        Check.answers("call 512", 152, () -> board.count(6));
    }
}
