/** Looks at calls beyond a boundary: what they throw, and that all that can be read stays as it was. */
final class Edge {
    private Edge() {
    }

    static void refusesState(String told, BallotBoard board, Check.Call call) {
        refuses(told, "IllegalStateException", board, call);
    }

    static void refusesArgument(String told, BallotBoard board, Check.Call call) {
        refuses(told, "IllegalArgumentException", board, call);
    }

    static void refusesIndex(String told, BallotBoard board, Check.Call call) {
        refuses(told, "IndexOutOfBoundsException", board, call);
    }

    static void refuses(String told, String exception, BallotBoard board, Check.Call call) {
        String before = Snapshot.of(board);
        Check.compare(told, "throws." + exception, Check.outcome(call));
        Check.holds(told + " changes nothing", before.equals(Snapshot.of(board)));
    }
}
