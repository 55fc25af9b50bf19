/** All that can be read of a board, as a text: boards that answer alike have the same. */
final class Snapshot {
    private Snapshot() {
    }

    static String of(BallotBoard board) {
        StringBuilder text = new StringBuilder();
        for (int what = 0; what <= 10; what++) {
            text.append(board.count(what)).append(' ');
        }
        text.append("result ").append(Check.outcome(board::result));
        text.append(" audit ").append(Check.outcome(board::audit));
        for (int k = 0; k < board.count(6); k++) {
            addEntry(text, board, k);
        }
        return text.toString();
    }

    private static void addEntry(StringBuilder text, BallotBoard board, int k) {
        text.append(" entry");
        int width = board.entry(k, 0) == 2 ? 8 : 5;
        for (int n = 0; n < width; n++) {
            text.append(' ').append(board.entry(k, n));
        }
        text.append(" chain");
        for (int word = 0; word < 4; word++) {
            text.append(' ').append(board.chain(k, word));
        }
    }
}
