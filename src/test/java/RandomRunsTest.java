import java.math.BigInteger;
import java.util.Random;

/** Promises 1 to 15 in runs of up to 512 calls that a fixed seed draws, each answer set against the Reference. */
public final class RandomRunsTest {
    private static final int MOST_CALLS = 512;
    private static final long[] SMALL = {7, 11, 23, 47, 59, 83, 107, 167, 179, 227, 263, 347, 359, 383, 467, 479, 503, 563, 587, 719};

    private final Random random;
    private final Pair pair;
    private final long[] secrets = new long[4];
    private long p;
    private long q;
    private long g;
    private int trustees;

    private RandomRunsTest(String name, long seed) {
        random = new Random(seed);
        pair = new Pair(name);
    }

    public static void main(String[] args) {
        for (int seed = 0; seed < 600; seed++) {
            new RandomRunsTest("small run " + seed, seed).mixed(SMALL[seed % SMALL.length]);
        }
        for (int seed = 0; seed < 60; seed++) {
            new RandomRunsTest("wide run " + seed, 1000 + seed).mixed(safePrime(seed, 8 + seed % 54));
        }
        for (int seed = 0; seed < 40; seed++) {
            new RandomRunsTest("large run " + seed, 2000 + seed).mixed(safePrime(5000 + seed, 61));
        }
        for (int seed = 0; seed < 12; seed++) {
            long prime = seed % 3 == 0 ? SMALL[seed] : safePrime(9000 + seed, 61);
            new RandomRunsTest("election " + seed, 3000 + seed).election(prime);
        }
        Check.end();
    }

    private void mixed(long prime) {
        if (random.nextInt(4) == 0) {
            strayCalls(6);
        }
        start(prime);
        int length = 40 + random.nextInt(120);
        int closeAt = random.nextInt(length);
        for (int step = 0; step < length && pair.calls() < MOST_CALLS; step++) {
            if (step == closeAt) {
                allKeys();
                pair.close();
            } else {
                anyCall();
            }
        }
        if (pair.calls() < MOST_CALLS - 20) {
            allKeys();
            pair.close();
            allShares();
            pair.result();
            pair.audit();
        }
    }

    /** A board filled to its rim, then closed, shared, read and spoiled until the calls are used up. */
    private void election(long prime) {
        start(prime);
        allKeys();
        for (int step = 0; step < 160; step++) {
            pair.makeBallot(random.nextInt(64), random.nextBoolean(), exponent(), exponent(), exponent(), exponent());
        }
        pair.audit();
        pair.close();
        allShares();
        pair.result();
        while (pair.calls() < MOST_CALLS) {
            if (random.nextInt(8) == 0) {
                spoilAndMend();
            } else {
                strayCalls(1);
            }
        }
    }

    private void start(long prime) {
        p = prime;
        q = (prime - 1) / 2;
        trustees = 1 + random.nextInt(4);
        do {
            long root = 2 + Math.floorMod(random.nextLong(), p - 3);
            g = BigInteger.valueOf(root).modPow(BigInteger.TWO, BigInteger.valueOf(p)).longValueExact();
        } while (g == 1);
        pair.begin(p, g, trustees);
    }

    private void allKeys() {
        for (int i = 0; i < trustees; i++) {
            postKey(i);
        }
    }

    private void allShares() {
        for (int i = trustees - 1; i >= 0; i--) {
            pair.makeShare(i, secrets[i], exponent());
        }
    }

    private void anyCall() {
        switch (random.nextInt(12)) {
            case 0:
                postKey(random.nextInt(trustees));
                break;
            case 1:
            case 2:
                pair.makeBallot(random.nextInt(64), random.nextBoolean(), exponent(), exponent(), exponent(), exponent());
                break;
            case 3:
            case 4:
                postBallot();
                break;
            case 5:
                postShare(random.nextInt(trustees));
                break;
            case 6:
                pair.key(who(4), number(), number(), number());
                break;
            case 7:
                pair.ballot(who(64), new long[] {2, 0, number(), number(), number(), number(), number(), number()});
                break;
            case 8:
                pair.share(who(4), number(), number(), number());
                break;
            case 9:
                spoilAndMend();
                break;
            default:
                strayCalls(1);
        }
    }

    private void postKey(int i) {
        long x = exponent();
        long w = exponent();
        String answer;
        if (random.nextBoolean()) {
            answer = pair.makeKey(i, x, w);
        } else {
            long[] row = perhapsBent(pair.reference.keyByTheRules(i, x, w));
            answer = pair.key(i, row[2], row[3], row[4]);
        }
        if (!answer.startsWith("throws")) {
            secrets[i] = x;
        } else if (pair.makeKey(i, x, w).startsWith("throws")) {
            return;
        } else {
            secrets[i] = x;
        }
    }

    private void postBallot() {
        int i = random.nextInt(64);
        long[] row = pair.reference.ballotByTheRules(i, random.nextBoolean(), exponent(), exponent(), exponent(), exponent());
        pair.ballot(random.nextInt(10) == 0 ? random.nextInt(64) : i, perhapsBent(row));
    }

    private void postShare(int i) {
        long x = random.nextInt(3) == 0 ? exponent() : secrets[i];
        if (random.nextBoolean()) {
            pair.makeShare(i, x, exponent());
        } else {
            long[] row = perhapsBent(pair.reference.shareByTheRules(i, x, exponent()));
            pair.share(i, row[2], row[3], row[4]);
        }
    }

    private long[] perhapsBent(long[] row) {
        if (random.nextInt(3) == 0) {
            row[2 + random.nextInt(row.length - 2)] = number();
        }
        return row;
    }

    private void spoilAndMend() {
        int size = (int) pair.reference.count(6);
        int k = size == 0 ? 0 : random.nextInt(size);
        int n = random.nextInt(9);
        String old = pair.spoil(k, n, number());
        pair.audit();
        if (!old.startsWith("throws") && random.nextInt(4) != 0) {
            pair.spoil(k, n, Long.parseLong(old));
            pair.audit();
        }
    }

    private void strayCalls(int calls) {
        for (int i = 0; i < calls; i++) {
            switch (random.nextInt(10)) {
                case 0:
                    pair.entry(random.nextInt(160) - 2, random.nextInt(10) - 1);
                    break;
                case 1:
                    pair.chain(random.nextInt(160) - 2, random.nextInt(6) - 1);
                    break;
                case 2:
                    pair.result();
                    break;
                case 3:
                    pair.audit();
                    break;
                case 4:
                    pair.makeKey(who(4), number(), number());
                    break;
                case 5:
                    pair.makeShare(who(4), number(), number());
                    break;
                case 6:
                    pair.makeBallot(who(64), random.nextBoolean(), number(), number(), number(), number());
                    break;
                case 7:
                    wrongBegin();
                    break;
                default:
                    pair.count(random.nextInt(14) - 1);
            }
        }
    }

    /** p is no prime of a group, so that the run goes on. */
    private void wrongBegin() {
        long any = random.nextLong() >> random.nextInt(62);
        boolean group = any >= 7 && BigInteger.valueOf(any).isProbablePrime(40) && BigInteger.valueOf(any / 2).isProbablePrime(40);
        pair.begin(group ? any + 1 : any, number(), random.nextInt(7) - 1);
    }

    private int who(int most) {
        return random.nextInt(8) == 0 ? random.nextInt() : random.nextInt(most + 2) - 1;
    }

    private long exponent() {
        int draw = random.nextInt(12);
        return draw == 0 ? 0 : draw == 1 ? q - 1 : Math.floorMod(random.nextLong(), q);
    }

    /** Mostly what fits, else what lies at or beyond the edges. */
    private long number() {
        switch (random.nextInt(16)) {
            case 0:
                return p;
            case 1:
                return q;
            case 2:
                return -1;
            case 3:
                return random.nextLong();
            case 4:
                return p - 1;
            case 5:
                return 1;
            case 6:
                return random.nextBoolean() ? Long.MIN_VALUE : Long.MAX_VALUE;
            case 7:
            case 8:
                return p < 3 ? 1 : Math.floorMod(random.nextLong(), p);
            default:
                return q < 1 ? 0 : exponent();
        }
    }

    private static long safePrime(long seed, int bits) {
        Random draw = new Random(seed);
        while (true) {
            BigInteger half = BigInteger.probablePrime(bits - 1, draw);
            BigInteger whole = half.shiftLeft(1).add(BigInteger.ONE);
            if (whole.isProbablePrime(60) && whole.bitLength() <= 61) {
                return whole.longValueExact();
            }
        }
    }
}
