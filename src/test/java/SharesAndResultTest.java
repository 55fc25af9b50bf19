/** Promises 8 to 10: share, makeShare, result. */
public final class SharesAndResultTest {
    private SharesAndResultTest() {
    }

    public static void main(String[] args) {
        shareTakesJustWhatIsProved();
        shareRefusesWrongNumbers();
        shareGoesByTheKeyAsItWasPosted();
        makeShareGoesByTheRules();
        makeShareTakesAnySecretIfItsProofHolds();
        resultCountsYes();
        resultReachesTheCount();
        resultMayBeNone();
        resultOfLargeGroup();
        Check.end();
    }

    private static void shareTakesJustWhatIsProved() {
        long[] primes = {7, 23};
        for (long p : primes) {
            Pair pair = closedIn(p);
            for (long s = -1; s <= p + 1; s++) {
                for (long c = -1; c <= p / 2 + 1; c++) {
                    for (long z = -1; z <= p / 2 + 1; z++) {
                        if (!pair.share(1, s, c, z).startsWith("throws")) {
                            pair = closedIn(p);
                        }
                    }
                }
            }
        }
    }

    private static Pair closedIn(long p) {
        Pair pair = new Pair("every share of " + p);
        pair.begin(p, 4, 2);
        pair.makeKey(0, 1, 1);
        pair.makeKey(1, 2, 1);
        pair.makeBallot(9, true, 2, 1, 0, 1);
        pair.close();
        return pair;
    }

    private static void shareRefusesWrongNumbers() {
        Pair pair = new Pair("wrong shares");
        pair.begin(Boards.LARGE_P, 4, 4);
        for (int i = 0; i < 4; i++) {
            pair.makeKey(i, 1000000007L * (i + 1), 3);
        }
        pair.makeBallot(1, true, 998244353L, 1, 2, 3);
        pair.close();
        long[] row = pair.reference.shareByTheRules(2, 3000000021L, 1L << 50);
        long[] wrong = {0, 1, -1, Boards.LARGE_Q, Boards.LARGE_P, Boards.LARGE_P - 1, Long.MIN_VALUE, Long.MAX_VALUE};
        for (long number : wrong) {
            pair.share(2, number, row[3], row[4]);
            pair.share(2, row[2], number, row[4]);
            pair.share(2, row[2], row[3], number);
        }
        pair.share(2, Boards.LARGE_P - row[2], row[3], row[4]);
        pair.share(2, row[2] + Boards.LARGE_P, row[3], row[4]);
        pair.share(2, row[2], row[3] + Boards.LARGE_Q, row[4]);
        pair.share(2, row[2], row[3], row[4] + Boards.LARGE_Q);
        int[] others = {-1, 4, Integer.MIN_VALUE, Integer.MAX_VALUE, 0, 1, 3};
        for (int i : others) {
            pair.share(i, row[2], row[3], row[4]);
        }
        pair.everything();
        pair.share(2, row[2], row[3], row[4]);
        pair.everything();
    }

    private static void shareGoesByTheKeyAsItWasPosted() {
        Pair pair = Boards.closed("share, spoiled board", 2, "110");
        pair.spoil(0, 2, 9);
        pair.spoil(2, 2, 1);
        pair.spoil(3, 3, 1);
        pair.makeShare(0, Boards.secret(0), 4);
        pair.makeShare(1, Boards.secret(1), 4);
        Check.answers("share, spoiled board: result()", 2, pair.board::result);
        pair.everything();
    }

    private static void makeShareGoesByTheRules() {
        for (long w = 0; w < Boards.Q; w++) {
            Pair pair = Boards.closed("makeShare, w " + w, 4, "1011");
            for (int i = 3; i >= 0; i--) {
                pair.makeShare(i, Boards.secret(i), w);
            }
            pair.everything();
        }
    }

    /** With another x the proof fails unless c is 0, or H happens to leave the same twice. */
    private static void makeShareTakesAnySecretIfItsProofHolds() {
        int taken = 0;
        int refused = 0;
        int takenWithZero = 0;
        for (long x = 0; x < Boards.Q; x++) {
            for (long w = 0; w < Boards.Q; w++) {
                Pair pair = Boards.closed("makeShare(0, " + x + ", " + w + ")", 1, "10");
                boolean wentThrough = !pair.makeShare(0, x, w).startsWith("throws");
                if (x != Boards.secret(0)) {
                    taken += wentThrough ? 1 : 0;
                    refused += wentThrough ? 0 : 1;
                    takenWithZero += wentThrough && pair.board.entry(3, 3) == 0 ? 1 : 0;
                }
                pair.everything();
            }
        }
        Check.holds("some other secrets are refused", refused > 0);
        Check.holds("some other secrets are taken with c 0", takenWithZero > 0 && takenWithZero <= taken);
        Pair large = new Pair("makeShare, large");
        large.begin(Boards.LARGE_P, 4, 1);
        large.makeKey(0, 5555555555L, 1);
        large.makeBallot(0, true, 7, 1, 2, 3);
        large.close();
        Edge.refusesArgument("makeShare, large, another x", large.board, () -> large.board.makeShare(0, 5555555556L, 9));
        Check.answers("makeShare, large", 2, () -> large.board.makeShare(0, 5555555555L, 9));
    }

    private static void resultCountsYes() {
        String[] votes = {"", "0", "1", "00", "01", "11", "10101", "1111111", "0000000", "0111010"};
        for (String vote : votes) {
            for (int trustees = 1; trustees <= 4; trustees++) {
                long yes = vote.chars().filter(c -> c == '1').count();
                Pair pair = Boards.shared("result of " + vote, trustees, vote);
                Check.answers("result of '" + vote + "', " + trustees + " trustees", yes, pair.board::result);
                pair.everything();
            }
        }
    }

    private static void resultReachesTheCount() {
        Pair pair = new Pair("all yes");
        pair.begin(Boards.LARGE_P, 4, 2);
        pair.makeKey(0, 31415926535L, 2);
        pair.makeKey(1, 27182818284L, 3);
        for (int i = 0; i < 64; i++) {
            pair.makeBallot(i, true, 1000003L * i + 1, 2, 3, 4);
        }
        Check.compare("all yes: close()", "64", pair.close());
        pair.makeShare(0, 31415926535L, 2);
        pair.makeShare(1, 27182818284L, 3);
        Check.answers("all yes: result()", 64, pair.board::result);
        pair.everything();
    }

    /** Without ballots A is 1, so a share that is not 1 but has a proof leaves nothing to be found. */
    private static void resultMayBeNone() {
        int none = 0;
        for (long c = 0; c < Boards.Q; c++) {
            for (long z = 0; z < Boards.Q; z++) {
                Pair pair = Boards.closed("no result", 1, "");
                if (!pair.share(0, 2, c, z).startsWith("throws")) {
                    none++;
                    Check.answers("no result, c " + c + ", z " + z, -1, pair.board::result);
                    pair.everything();
                }
            }
        }
        Check.holds("a share that leaves no result is found", none > 0);
    }

    private static void resultOfLargeGroup() {
        Pair pair = new Pair("large result");
        pair.begin(Boards.LARGE_P, 16, 1);
        pair.makeKey(0, Boards.LARGE_Q - 1, Boards.LARGE_Q - 1);
        pair.makeBallot(0, false, Boards.LARGE_Q - 1, 0, 0, 0);
        pair.makeBallot(1, true, Boards.LARGE_Q - 1, Boards.LARGE_Q - 1, Boards.LARGE_Q - 1, Boards.LARGE_Q - 1);
        pair.close();
        pair.makeShare(0, Boards.LARGE_Q - 1, Boards.LARGE_Q - 1);
        Check.answers("large result", 1, pair.board::result);
        pair.everything();
    }
}
