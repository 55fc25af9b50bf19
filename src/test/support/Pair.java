/** A BallotBoard and the Reference, told the same calls: their answers must be the same. */
final class Pair {
    final BallotBoard board = new BallotBoard();
    final Reference reference = new Reference();
    private final String run;
    private int calls = 0;

    Pair(String run) {
        this.run = run;
    }

    int calls() {
        return calls;
    }

    String begin(long p, long g, int n) {
        return same("begin(" + p + ", " + g + ", " + n + ")", () -> board.begin(p, g, n), () -> reference.begin(p, g, n));
    }

    String key(int i, long h, long c, long z) {
        return same("key(" + i + ", " + h + ", " + c + ", " + z + ")", () -> board.key(i, h, c, z), () -> reference.key(i, h, c, z));
    }

    String makeKey(int i, long x, long w) {
        return same("makeKey(" + i + ", " + x + ", " + w + ")", () -> board.makeKey(i, x, w), () -> reference.makeKey(i, x, w));
    }

    String ballot(int i, long[] row) {
        return same("ballot(" + i + ", " + java.util.Arrays.toString(row) + " from its third on)",
            () -> board.ballot(i, row[2], row[3], row[4], row[5], row[6], row[7]),
            () -> reference.ballot(i, row[2], row[3], row[4], row[5], row[6], row[7]));
    }

    String makeBallot(int i, boolean yes, long r, long w, long e, long f) {
        return same("makeBallot(" + i + ", " + yes + ", " + r + ", " + w + ", " + e + ", " + f + ")",
            () -> board.makeBallot(i, yes, r, w, e, f), () -> reference.makeBallot(i, yes, r, w, e, f));
    }

    String close() {
        return same("close()", board::close, reference::close);
    }

    String share(int i, long s, long c, long z) {
        return same("share(" + i + ", " + s + ", " + c + ", " + z + ")", () -> board.share(i, s, c, z), () -> reference.share(i, s, c, z));
    }

    String makeShare(int i, long x, long w) {
        return same("makeShare(" + i + ", " + x + ", " + w + ")", () -> board.makeShare(i, x, w), () -> reference.makeShare(i, x, w));
    }

    String result() {
        return same("result()", board::result, reference::result);
    }

    String entry(int k, int n) {
        return same("entry(" + k + ", " + n + ")", () -> board.entry(k, n), () -> reference.entry(k, n));
    }

    String chain(int k, int word) {
        return same("chain(" + k + ", " + word + ")", () -> board.chain(k, word), () -> reference.chain(k, word));
    }

    String spoil(int k, int n, long v) {
        return same("spoil(" + k + ", " + n + ", " + v + ")", () -> board.spoil(k, n, v), () -> reference.spoil(k, n, v));
    }

    String audit() {
        return same("audit()", board::audit, reference::audit);
    }

    String count(int what) {
        return same("count(" + what + ")", () -> board.count(what), () -> reference.count(what));
    }

    /** All that can be read, so that a refused call that changed something is seen. */
    void everything() {
        for (int what = -1; what <= 11; what++) {
            count(what);
        }
        int size = (int) reference.count(6);
        for (int k = -1; k <= size; k++) {
            for (int n = -1; n <= 8; n++) {
                entry(k, n);
            }
            for (int word = -1; word <= 4; word++) {
                chain(k, word);
            }
        }
        result();
        audit();
    }

    private String same(String told, Check.Call got, Check.Call due) {
        calls++;
        String answer = Check.outcome(due);
        Check.compare(run + ", call " + calls + ": " + told, answer, Check.outcome(got));
        return answer;
    }
}
