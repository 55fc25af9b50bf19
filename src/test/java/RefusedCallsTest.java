import java.util.ArrayList;
import java.util.List;

/**
 * "A call that throws changes nothing; what is wrong is looked at in the order in which it is told at the call":
 * every call, right and wrong in each way, at each stage of an election of two TRUSTEES in the group of 23 and 4.
 */
public final class RefusedCallsTest {
    private static final String[] STAGES = {"new", "begun", "key of 1", "keys", "ballots", "149 entries", "150 entries",
        "closed, no ballots", "closed", "closed, 150 entries", "share of 1", "shares", "shares, spoiled"};

    private interface Call {
        long on(BallotBoard board);
    }

    /** Due tells for each stage: S, A, X for the exception, - for an answer. */
    private record Row(String told, String due, Call call) {
    }

    private final List<Row> rows = new ArrayList<>();

    private RefusedCallsTest() {
    }

    public static void main(String[] args) {
        RefusedCallsTest test = new RefusedCallsTest();
        test.keys();
        test.ballots();
        test.closingAndShares();
        test.reading();
        test.beginning();
        test.run();
        Check.end();
    }

    private void keys() {
        Reference reference = Boards.begun("rows", 2).reference;
        long[] zero = reference.keyByTheRules(0, 3, 5);
        long[] one = reference.keyByTheRules(1, 5, 5);
        add("key(0, ..)", "S--SSSSSSSSSS", b -> b.key(0, zero[2], zero[3], zero[4]));
        add("key(1, ..)", "S-SSSSSSSSSSS", b -> b.key(1, one[2], one[3], one[4]));
        add("key(-1, ..)", "SAAAAAASSSSSS", b -> b.key(-1, zero[2], zero[3], zero[4]));
        add("key(2, ..)", "SAAAAAASSSSSS", b -> b.key(2, zero[2], zero[3], zero[4]));
        add("key(0, h 0)", "SAASSSSSSSSSS", b -> b.key(0, 0, zero[3], zero[4]));
        add("key(0, h p)", "SAASSSSSSSSSS", b -> b.key(0, 23, zero[3], zero[4]));
        add("key(0, c -1)", "SAASSSSSSSSSS", b -> b.key(0, zero[2], -1, zero[4]));
        add("key(0, z q)", "SAASSSSSSSSSS", b -> b.key(0, zero[2], zero[3], 11));
        add("key(0, another z)", "SAASSSSSSSSSS", b -> b.key(0, zero[2], zero[3], (zero[4] + 1) % 11));
        add("key(1, c q)", "SASSSSSSSSSSS", b -> b.key(1, one[2], 11, one[4]));
        add("makeKey(0, ..)", "S--SSSSSSSSSS", b -> b.makeKey(0, 3, 5));
        add("makeKey(1, ..)", "S-SSSSSSSSSSS", b -> b.makeKey(1, 5, 5));
        add("makeKey(-1, ..)", "SAAAAAASSSSSS", b -> b.makeKey(-1, 3, 5));
        add("makeKey(2, ..)", "SAAAAAASSSSSS", b -> b.makeKey(2, 3, 5));
        add("makeKey(0, x -1)", "SAASSSSSSSSSS", b -> b.makeKey(0, -1, 5));
        add("makeKey(0, w q)", "SAASSSSSSSSSS", b -> b.makeKey(0, 3, 11));
        add("makeKey(1, x q)", "SASSSSSSSSSSS", b -> b.makeKey(1, 11, 5));
    }

    private void ballots() {
        long[] row = Boards.withKeys("rows", 2).reference.ballotByTheRules(7, true, 1, 2, 3, 4);
        add("ballot(7, ..)", "SSS---XSSSSSS", b -> post(b, 7, row));
        add("ballot(-1, ..)", "SSSAAAXSSSSSS", b -> post(b, -1, row));
        add("ballot(64, ..)", "SSSAAAXSSSSSS", b -> post(b, 64, row));
        for (int n = 2; n < 8; n++) {
            long[] less = Boards.with(row, n, -1);
            long[] more = Boards.with(row, n, n < 4 ? 23 : 11);
            add("ballot(7, number " + n + " -1)", "SSSAAAXSSSSSS", b -> post(b, 7, less));
            add("ballot(7, number " + n + " too large)", "SSSAAAXSSSSSS", b -> post(b, 7, more));
        }
        add("ballot(7, another y)", "SSSAAAXSSSSSS", b -> post(b, 7, Boards.with(row, 7, (row[7] + 1) % 11)));
        add("makeBallot(7, ..)", "SSS---XSSSSSS", b -> b.makeBallot(7, true, 1, 2, 3, 4));
        add("makeBallot(-1, ..)", "SSSAAAXSSSSSS", b -> b.makeBallot(-1, true, 1, 2, 3, 4));
        add("makeBallot(64, ..)", "SSSAAAXSSSSSS", b -> b.makeBallot(64, false, 1, 2, 3, 4));
        add("makeBallot(7, r -1)", "SSSAAAXSSSSSS", b -> b.makeBallot(7, true, -1, 2, 3, 4));
        add("makeBallot(7, w q)", "SSSAAAXSSSSSS", b -> b.makeBallot(7, false, 1, 11, 3, 4));
        add("makeBallot(7, e -1)", "SSSAAAXSSSSSS", b -> b.makeBallot(7, true, 1, 2, -1, 4));
        add("makeBallot(7, f q)", "SSSAAAXSSSSSS", b -> b.makeBallot(7, false, 1, 2, 3, 11));
    }

    private void closingAndShares() {
        add("close()", "SSS----SSSSSS", BallotBoard::close);
        add("share(0, without proof)", "SSSSSSSAAAASS", b -> b.share(0, 1, 10, 3));
        add("share(1, without proof)", "SSSSSSSAAASSS", b -> b.share(1, 1, 10, 3));
        add("share(-1, ..)", "SSSSSSSAAAAAA", b -> b.share(-1, 1, 0, 0));
        add("share(2, ..)", "SSSSSSSAAAAAA", b -> b.share(2, 1, 0, 0));
        add("share(0, s 0)", "SSSSSSSAAAASS", b -> b.share(0, 0, 0, 0));
        add("share(0, s p)", "SSSSSSSAAAASS", b -> b.share(0, 23, 0, 0));
        add("share(0, c -1)", "SSSSSSSAAAASS", b -> b.share(0, 1, -1, 0));
        add("share(0, z q)", "SSSSSSSAAAASS", b -> b.share(0, 1, 0, 11));
        add("makeShare(0, ..)", "SSSSSSS----SS", b -> b.makeShare(0, 3, 4));
        add("makeShare(1, ..)", "SSSSSSS---SSS", b -> b.makeShare(1, 5, 4));
        add("makeShare(-1, ..)", "SSSSSSSAAAAAA", b -> b.makeShare(-1, 3, 4));
        add("makeShare(2, ..)", "SSSSSSSAAAAAA", b -> b.makeShare(2, 3, 4));
        add("makeShare(0, x -1)", "SSSSSSSAAAASS", b -> b.makeShare(0, -1, 4));
        add("makeShare(0, w q)", "SSSSSSSAAAASS", b -> b.makeShare(0, 3, 11));
        add("makeShare(1, x q)", "SSSSSSSAAASSS", b -> b.makeShare(1, 11, 4));
        add("result()", "SSSSSSSSSSS--", BallotBoard::result);
    }

    private void reading() {
        add("entry(0, 0)", "XX-----------", b -> b.entry(0, 0));
        add("entry(0, 4)", "XX-----------", b -> b.entry(0, 4));
        add("entry(0, 5)", "XXXXXXXXXXXXX", b -> b.entry(0, 5));
        add("entry(0, -1)", "XXXXXXXXXXXXX", b -> b.entry(0, -1));
        add("entry(-1, 0)", "XXXXXXXXXXXXX", b -> b.entry(-1, 0));
        add("entry(behind the last, 0)", "XXXXXXXXXXXXX", b -> b.entry((int) b.count(6), 0));
        add("chain(0, 3)", "XX-----------", b -> b.chain(0, 3));
        add("chain(0, 4)", "XXXXXXXXXXXXX", b -> b.chain(0, 4));
        add("chain(0, -1)", "XXXXXXXXXXXXX", b -> b.chain(0, -1));
        add("chain(-1, 0)", "XXXXXXXXXXXXX", b -> b.chain(-1, 0));
        add("chain(behind the last, 0)", "XXXXXXXXXXXXX", b -> b.chain((int) b.count(6), 0));
        add("spoil(0, 2, 9)", "XX-----------", b -> b.spoil(0, 2, 9));
        add("spoil(0, 1, 9)", "XXXXXXXXXXXXX", b -> b.spoil(0, 1, 9));
        add("spoil(0, 0, 9)", "XXXXXXXXXXXXX", b -> b.spoil(0, 0, 9));
        add("spoil(0, 5, 9)", "XXXXXXXXXXXXX", b -> b.spoil(0, 5, 9));
        add("spoil(-1, 2, 9)", "XXXXXXXXXXXXX", b -> b.spoil(-1, 2, 9));
        add("spoil(behind the last, 2, 9)", "XXXXXXXXXXXXX", b -> b.spoil((int) b.count(6), 2, 9));
        add("audit()", "S------------", BallotBoard::audit);
        add("count(0)", "-------------", b -> b.count(0));
        add("count(10)", "-------------", b -> b.count(10));
        add("count(-1)", "AAAAAAAAAAAAA", b -> b.count(-1));
        add("count(11)", "AAAAAAAAAAAAA", b -> b.count(11));
    }

    private void beginning() {
        add("begin(47, 4, 4)", "-------------", b -> b.begin(47, 4, 4));
        add("begin(47, 4, 0)", "AAAAAAAAAAAAA", b -> b.begin(47, 4, 0));
        add("begin(47, 4, 5)", "AAAAAAAAAAAAA", b -> b.begin(47, 4, 5));
        add("begin(47, 1, 2)", "AAAAAAAAAAAAA", b -> b.begin(47, 1, 2));
        add("begin(47, 46, 2)", "AAAAAAAAAAAAA", b -> b.begin(47, 46, 2));
        add("begin(47, 47, 2)", "AAAAAAAAAAAAA", b -> b.begin(47, 47, 2));
        add("begin(5, 4, 2)", "AAAAAAAAAAAAA", b -> b.begin(5, 4, 2));
        add("begin(49, 4, 2)", "AAAAAAAAAAAAA", b -> b.begin(49, 4, 2));
    }

    private void add(String told, String due, Call call) {
        rows.add(new Row(told, due, call));
    }

    private void run() {
        for (int stage = 0; stage < STAGES.length; stage++) {
            String untouched = goOn(at(stage));
            for (Row row : rows) {
                look(row, stage, untouched);
            }
        }
    }

    private static void look(Row row, int stage, String untouched) {
        BallotBoard board = at(stage);
        String told = STAGES[stage] + ": " + row.told();
        char due = row.due().charAt(stage);
        if (due == '-') {
            Check.holds(told + " answers", !Check.outcome(() -> row.call().on(board)).startsWith("throws"));
            return;
        }
        Edge.refuses(told, exception(due), board, () -> row.call().on(board));
        Check.holds(told + " changes nothing for what follows", untouched.equals(goOn(board)));
    }

    private static String exception(char due) {
        return due == 'S' ? "IllegalStateException" : due == 'A' ? "IllegalArgumentException" : "IndexOutOfBoundsException";
    }

    private static BallotBoard at(int stage) {
        BallotBoard board = new BallotBoard();
        if (stage >= 1) {
            board.begin(23, 4, 2);
        }
        if (stage >= 2) {
            board.makeKey(1, 5, 1);
        }
        if (stage >= 3) {
            board.makeKey(0, 3, 2);
        }
        fill(board, stage == 5 ? 149 : stage == 6 || stage == 9 ? 150 : stage == 4 || stage >= 8 ? 7 : 0);
        if (stage >= 7) {
            board.close();
        }
        if (stage >= 10) {
            board.makeShare(1, 5, 6);
        }
        if (stage >= 11) {
            board.makeShare(0, 3, 6);
        }
        if (stage >= 12) {
            board.spoil(4, 3, 99);
        }
        return board;
    }

    private static void fill(BallotBoard board, int entries) {
        for (int k = 2; k < entries; k++) {
            board.makeBallot(k % 64, k % 2 == 0, k % 11, 2, 3, 4);
        }
    }

    /** The rest of the election, so that what cannot be read is seen in what follows from it. */
    private static String goOn(BallotBoard board) {
        StringBuilder text = new StringBuilder();
        if (board.count(0) == 0) {
            text.append(Check.outcome(() -> board.begin(23, 4, 2)));
        }
        Check.Call[] calls = {() -> board.makeKey(0, 3, 2), () -> board.makeKey(1, 5, 1),
            () -> board.makeBallot(2, true, 6, 7, 8, 9), () -> board.makeBallot(3, false, 6, 7, 8, 9), board::close,
            () -> board.makeShare(0, 3, 6), () -> board.makeShare(1, 5, 6), board::result, board::audit};
        for (Check.Call call : calls) {
            text.append(' ').append(Check.outcome(call));
        }
        return text.append(' ').append(Snapshot.of(board)).toString();
    }

    private static long post(BallotBoard board, int i, long[] row) {
        return board.ballot(i, row[2], row[3], row[4], row[5], row[6], row[7]);
    }
}
