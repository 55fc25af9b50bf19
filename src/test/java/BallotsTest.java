/** Promises 5 to 7: ballot, makeBallot, close. */
public final class BallotsTest {
    private BallotsTest() {
    }

    public static void main(String[] args) {
        ballotTakesJustWhatIsProved();
        ballotTakesWhatTheRulesMake();
        ballotRefusesWrongNumbers();
        makeBallotGoesByTheRules();
        Check.end();
    }

    /** Every ballot about the smallest group; those that are taken count for voter 0 alone. */
    private static void ballotTakesJustWhatIsProved() {
        Pair pair = smallest();
        for (int code = 0; code < 9 * 9 * 256; code++) {
            int exponents = code % 256;
            int elements = code / 256;
            long[] row = {2, 0, elements % 9, elements / 9, exponents % 4, exponents / 4 % 4, exponents / 16 % 4, exponents / 64};
            pair.ballot(0, row);
            if (pair.reference.count(6) == 150) {
                pair.close();
                pair.count(4);
                pair.count(5);
                pair = smallest();
            }
        }
        pair.everything();
    }

    private static Pair smallest() {
        Pair pair = new Pair("every ballot of 7");
        pair.begin(7, 2, 1);
        pair.makeKey(0, 2, 1);
        return pair;
    }

    private static void ballotTakesWhatTheRulesMake() {
        Pair pair = new Pair("large ballots");
        pair.begin(Boards.LARGE_P, 9, 2);
        pair.makeKey(0, 1111111111111111111L, 5);
        pair.makeKey(1, Boards.LARGE_Q - 1, 0);
        long[] yes = pair.reference.ballotByTheRules(63, true, 77777777777777777L, 1, Boards.LARGE_Q - 1, 0);
        long[] no = pair.reference.ballotByTheRules(0, false, Boards.LARGE_Q - 2, 31, 0, Boards.LARGE_Q - 1);
        Check.compare("ballot of 63", "2", pair.ballot(63, yes));
        Check.compare("ballot of 0", "3", pair.ballot(0, no));
        Check.compare("another voter's ballot", "throws.IllegalArgumentException", pair.ballot(1, no));
        pair.everything();
    }

    private static void ballotRefusesWrongNumbers() {
        Pair pair = new Pair("wrong ballots");
        pair.begin(Boards.LARGE_P, 4, 1);
        pair.makeKey(0, 987654321L, 55);
        long[] good = pair.reference.ballotByTheRules(7, true, 1234567L, 7654321L, 1, 2);
        long[] wrong = {0, 1, -1, Boards.LARGE_Q, Boards.LARGE_P, Boards.LARGE_P - 1, Long.MIN_VALUE, Long.MAX_VALUE};
        for (int n = 2; n < 8; n++) {
            for (long number : wrong) {
                pair.ballot(7, Boards.with(good, n, number));
            }
            pair.ballot(7, Boards.with(good, n, good[n] + 1));
            pair.ballot(7, Boards.with(good, n, Boards.LARGE_P - good[n]));
            pair.ballot(7, Boards.with(good, n, good[n] + Boards.LARGE_Q));
            pair.ballot(7, Boards.with(good, n, good[n] + Boards.LARGE_P));
        }
        int[] nobody = {-1, 64, Integer.MIN_VALUE, Integer.MAX_VALUE};
        for (int i : nobody) {
            pair.ballot(i, good);
        }
        pair.everything();
        pair.ballot(7, good);
        pair.everything();
    }

    private static void makeBallotGoesByTheRules() {
        Pair pair = Boards.withKeys("makeBallot", 2);
        for (int code = 0; code < 11 * 11 * 11 * 11; code += 7) {
            if (pair.reference.count(6) == 150) {
                pair.everything();
                pair = Boards.withKeys("makeBallot", 2);
            }
            pair.makeBallot(code % 64, code % 2 == 0, code % 11, code / 11 % 11, code / 121 % 11, code / 1331);
        }
        pair.everything();
    }
}
