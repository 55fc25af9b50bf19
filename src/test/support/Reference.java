import java.math.BigInteger;
import java.nio.ByteBuffer;
import java.security.MessageDigest;
import java.security.NoSuchAlgorithmException;
import java.util.ArrayList;
import java.util.List;

/**
 * The document once more, over BigInteger and the library's SHA-256, with nothing remembered that can
 * be worked out again from the entries: what BallotBoard answers is set against it.
 */
final class Reference {
    private BigInteger p;
    private BigInteger q;
    private BigInteger g;
    private int trustees;
    private boolean closed;
    private final List<long[]> made = new ArrayList<>();
    private final List<long[]> standing = new ArrayList<>();
    private final List<byte[]> links = new ArrayList<>();

    // The face.

    long begin(long newP, long newG, int n) {
        BigInteger bigP = big(newP);
        BigInteger bigQ = bigP.subtract(BigInteger.ONE).shiftRight(1);
        BigInteger bigG = big(newG);
        boolean fits = newP >= 7 && bigP.compareTo(BigInteger.ONE.shiftLeft(61)) <= 0
            && bigP.isProbablePrime(60) && bigQ.isProbablePrime(60)
            && newG > 1 && newG < newP && bigG.modPow(bigQ, bigP).equals(BigInteger.ONE);
        if (!fits || n < 1 || n > 4) {
            throw new IllegalArgumentException();
        }
        p = bigP;
        q = bigQ;
        g = bigG;
        trustees = n;
        closed = false;
        made.clear();
        standing.clear();
        links.clear();
        return q.longValueExact();
    }

    int key(int i, long h, long c, long z) {
        expectKeyDue(i);
        if (i < 0 || i >= trustees) {
            throw new IllegalArgumentException();
        }
        return post(new long[] {1, i, h, c, z});
    }

    int makeKey(int i, long x, long w) {
        expectKeyDue(i);
        if (i < 0 || i >= trustees || !isExponent(x) || !isExponent(w)) {
            throw new IllegalArgumentException();
        }
        return post(keyByTheRules(i, x, w));
    }

    int ballot(int i, long a, long b, long c, long z, long d, long y) {
        expectBallotDue();
        if (i < 0 || i > 63) {
            throw new IllegalArgumentException();
        }
        return post(new long[] {2, i, a, b, c, z, d, y});
    }

    int makeBallot(int i, boolean yes, long r, long w, long e, long f) {
        expectBallotDue();
        if (i < 0 || i > 63 || !isExponent(r) || !isExponent(w) || !isExponent(e) || !isExponent(f)) {
            throw new IllegalArgumentException();
        }
        return post(ballotByTheRules(i, yes, r, w, e, f));
    }

    int close() {
        expectOpen();
        if (countOf(made, 1) < trustees) {
            throw new IllegalStateException();
        }
        closed = true;
        return counting(made).size();
    }

    int share(int i, long s, long c, long z) {
        expectShareDue(i);
        if (i < 0 || i >= trustees) {
            throw new IllegalArgumentException();
        }
        return post(new long[] {3, i, s, c, z});
    }

    int makeShare(int i, long x, long w) {
        expectShareDue(i);
        if (i < 0 || i >= trustees || !isExponent(x) || !isExponent(w)) {
            throw new IllegalArgumentException();
        }
        return post(shareByTheRules(i, x, w));
    }

    int result() {
        if (!closed || countOf(made, 3) < trustees) {
            throw new IllegalStateException();
        }
        BigInteger shares = BigInteger.ONE;
        for (long[] row : made) {
            if (row[0] == 3) {
                shares = shares.multiply(big(row[2])).mod(p);
            }
        }
        BigInteger sought = product(made, 3).multiply(shares.modInverse(p)).mod(p);
        for (int m = 0; m <= counting(made).size(); m++) {
            if (g.modPow(big(m), p).equals(sought)) {
                return m;
            }
        }
        return -1;
    }

    long entry(int k, int n) {
        if (k < 0 || k >= standing.size() || n < 0 || n >= standing.get(k).length) {
            throw new IndexOutOfBoundsException();
        }
        return standing.get(k)[n];
    }

    long chain(int k, int word) {
        if (k < 0 || k >= links.size() || word < 0 || word > 3) {
            throw new IndexOutOfBoundsException();
        }
        return ByteBuffer.wrap(links.get(k)).getLong(8 * word);
    }

    long spoil(int k, int n, long v) {
        if (k < 0 || k >= standing.size() || n < 2 || n >= standing.get(k).length) {
            throw new IndexOutOfBoundsException();
        }
        long old = standing.get(k)[n];
        standing.get(k)[n] = v;
        return old;
    }

    int audit() {
        if (p == null) {
            throw new IllegalStateException();
        }
        for (int k = 0; k < standing.size(); k++) {
            byte[] due = link(k, standing.get(k));
            if (!MessageDigest.isEqual(due, links.get(k)) || !holds(standing, standing.get(k))) {
                return k;
            }
        }
        return -1;
    }

    long count(int what) {
        switch (what) {
            case 0: return p == null ? 0 : p.longValueExact();
            case 1: return p == null ? 0 : q.longValueExact();
            case 2: return p == null ? 0 : g.longValueExact();
            case 3: return p == null || countOf(made, 1) < trustees ? 0 : commonKey(made).longValueExact();
            case 4: return closed ? product(made, 2).longValueExact() : 0;
            case 5: return closed ? product(made, 3).longValueExact() : 0;
            case 6: return made.size();
            case 7: return counting(made).size();
            case 8: return countOf(made, 1);
            case 9: return countOf(made, 3);
            case 10: return closed ? 1 : 0;
            default: throw new IllegalArgumentException();
        }
    }

    // Entries by the rules of section 3.

    long[] keyByTheRules(int i, long x, long w) {
        BigInteger h = g.modPow(big(x), p);
        BigInteger c = hash(big(1), big(i), h, g.modPow(big(w), p));
        return row(1, i, h, c, left(big(w).add(c.multiply(big(x)))));
    }

    long[] ballotByTheRules(int i, boolean yes, long r, long w, long e, long f) {
        BigInteger k = commonKey(made);
        BigInteger a = g.modPow(big(r), p);
        BigInteger b = k.modPow(big(r), p).multiply(yes ? g : BigInteger.ONE).mod(p);
        BigInteger gw = g.modPow(big(w), p);
        BigInteger kw = k.modPow(big(w), p);
        if (yes) {
            BigInteger sum = hash(big(2), big(i), a, b, opened(g, big(f), a, big(e)), opened(k, big(f), b, big(e)), gw, kw);
            BigInteger d = left(sum.subtract(big(e)));
            return row(2, i, a, b, big(e), big(f), d, left(big(w).add(d.multiply(big(r)))));
        }
        BigInteger bOverG = b.multiply(g.modInverse(p)).mod(p);
        BigInteger sum = hash(big(2), big(i), a, b, gw, kw, opened(g, big(f), a, big(e)), opened(k, big(f), bOverG, big(e)));
        BigInteger c = left(sum.subtract(big(e)));
        return row(2, i, a, b, c, left(big(w).add(c.multiply(big(r)))), big(e), big(f));
    }

    long[] shareByTheRules(int i, long x, long w) {
        BigInteger a = product(made, 2);
        BigInteger s = a.modPow(big(x), p);
        BigInteger c = hash(big(3), big(i), a, s, g.modPow(big(w), p), a.modPow(big(w), p));
        return row(3, i, s, c, left(big(w).add(c.multiply(big(x)))));
    }

    // State.

    private void expectOpen() {
        if (p == null || closed) {
            throw new IllegalStateException();
        }
    }

    private void expectKeyDue(int i) {
        expectOpen();
        if (find(made, 1, i) != null) {
            throw new IllegalStateException();
        }
    }

    private void expectBallotDue() {
        expectOpen();
        if (countOf(made, 1) < trustees) {
            throw new IllegalStateException();
        }
        if (made.size() == 150) {
            throw new IndexOutOfBoundsException();
        }
    }

    private void expectShareDue(int i) {
        if (!closed || find(made, 3, i) != null) {
            throw new IllegalStateException();
        }
    }

    private int post(long[] row) {
        if (!holds(made, row)) {
            throw new IllegalArgumentException();
        }
        links.add(link(made.size(), row));
        made.add(row);
        standing.add(row.clone());
        return made.size() - 1;
    }

    // Proofs.

    private boolean holds(List<long[]> entries, long[] row) {
        int exponentsFrom = row[0] == 2 ? 4 : 3;
        for (int n = 2; n < row.length; n++) {
            if (n < exponentsFrom ? !isIn(row[n]) : !isExponent(row[n])) {
                return false;
            }
        }
        if (row[0] == 1) {
            BigInteger t = opened(g, big(row[4]), big(row[2]), big(row[3]));
            return hash(big(1), big(row[1]), big(row[2]), t).equals(big(row[3]));
        }
        if (row[0] == 3) {
            BigInteger a = product(entries, 2);
            BigInteger h = big(find(entries, 1, (int) row[1])[2]);
            BigInteger s = big(row[2]);
            BigInteger c = big(row[3]);
            BigInteger z = big(row[4]);
            return hash(big(3), big(row[1]), a, s, opened(g, z, h, c), opened(a, z, s, c)).equals(c);
        }
        return ballotHolds(commonKey(entries), row);
    }

    private boolean ballotHolds(BigInteger k, long[] row) {
        BigInteger a = big(row[2]);
        BigInteger b = big(row[3]);
        BigInteger c = big(row[4]);
        BigInteger z = big(row[5]);
        BigInteger d = big(row[6]);
        BigInteger y = big(row[7]);
        BigInteger bOverG = b.multiply(g.modInverse(p)).mod(p);
        BigInteger due = hash(big(2), big(row[1]), a, b,
            opened(g, z, a, c), opened(k, z, b, c), opened(g, y, a, d), opened(k, y, bOverG, d));
        return left(c.add(d)).equals(due);
    }

    private boolean isIn(long y) {
        return y >= 1 && big(y).compareTo(p) < 0 && big(y).modPow(q, p).equals(BigInteger.ONE);
    }

    private boolean isExponent(long e) {
        return e >= 0 && big(e).compareTo(q) < 0;
    }

    private BigInteger opened(BigInteger base, BigInteger z, BigInteger y, BigInteger c) {
        return base.modPow(z, p).multiply(y.modPow(q.subtract(c), p)).mod(p);
    }

    private BigInteger hash(BigInteger... numbers) {
        ByteBuffer octets = ByteBuffer.allocate(8 * numbers.length + 16);
        octets.putLong(p.longValueExact()).putLong(g.longValueExact());
        for (BigInteger number : numbers) {
            octets.putLong(number.longValueExact());
        }
        byte[] first = new byte[8];
        System.arraycopy(sha256(octets.array()), 0, first, 0, 8);
        return new BigInteger(1, first).mod(q);
    }

    private byte[] link(int k, long[] row) {
        ByteBuffer octets = ByteBuffer.allocate(32 + 8 * row.length);
        octets.put(k == 0 ? new byte[32] : links.get(k - 1));
        for (long number : row) {
            octets.putLong(number);
        }
        return sha256(octets.array());
    }

    private static byte[] sha256(byte[] octets) {
        try {
            return MessageDigest.getInstance("SHA-256").digest(octets);
        } catch (NoSuchAlgorithmException e) {
            throw new AssertionError(e);
        }
    }

    // What follows from entries.

    private static int countOf(List<long[]> entries, int kind) {
        int count = 0;
        for (long[] row : entries) {
            count += row[0] == kind ? 1 : 0;
        }
        return count;
    }

    private static long[] find(List<long[]> entries, int kind, int who) {
        for (long[] row : entries) {
            if (row[0] == kind && row[1] == who) {
                return row;
            }
        }
        return null;
    }

    private BigInteger commonKey(List<long[]> entries) {
        BigInteger k = BigInteger.ONE;
        for (long[] row : entries) {
            if (row[0] == 1) {
                k = k.multiply(big(row[2])).mod(p);
            }
        }
        return k;
    }

    private static List<long[]> counting(List<long[]> entries) {
        long[][] latest = new long[64][];
        for (long[] row : entries) {
            if (row[0] == 2) {
                latest[(int) row[1]] = row;
            }
        }
        List<long[]> found = new ArrayList<>();
        for (long[] row : latest) {
            if (row != null) {
                found.add(row);
            }
        }
        return found;
    }

    private BigInteger product(List<long[]> entries, int n) {
        BigInteger product = BigInteger.ONE;
        for (long[] row : counting(entries)) {
            product = product.multiply(big(row[n])).mod(p);
        }
        return product;
    }

    private BigInteger left(BigInteger number) {
        return number.mod(q);
    }

    private static long[] row(int kind, int who, BigInteger... numbers) {
        long[] row = new long[numbers.length + 2];
        row[0] = kind;
        row[1] = who;
        for (int n = 0; n < numbers.length; n++) {
            row[n + 2] = numbers[n].longValueExact();
        }
        return row;
    }

    private static BigInteger big(long number) {
        return BigInteger.valueOf(number);
    }
}
