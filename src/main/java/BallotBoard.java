/**
 * Elections with encrypted ballots: trustees post keys, voters post ballots with proofs that these
 * hold 0 or 1, trustees post shares of the product of all, and out of these comes how many hold 1;
 * all stands on a board that an auditor checks.
 */
public final class BallotBoard {
    private static final int KEY = 1;
    private static final int BALLOT = 2;
    private static final int SHARE = 3;

    /** Where the numbers of an entry stand in its row: HEAD is h of a key, s of a share. */
    private static final int KIND = 0;
    private static final int WHO = 1;
    private static final int HEAD = 2;
    private static final int HEAD_C = 3;
    private static final int HEAD_Z = 4;
    private static final int BALLOT_A = 2;
    private static final int BALLOT_B = 3;
    private static final int BALLOT_C = 4;
    private static final int BALLOT_Z = 5;
    private static final int BALLOT_D = 6;
    private static final int BALLOT_Y = 7;
    private static final int ROW = 8;
    private static final int SHORT_ROW = 5;

    private static final int MOST_TRUSTEES = 4;
    private static final int VOTERS = 64;
    private static final int ROOM_FOR_BALLOTS = 150;
    private static final int ROOM = ROOM_FOR_BALLOTS + MOST_TRUSTEES;
    private static final int CHAIN_WORDS = 4;

    private final Board board;
    private final Proofs proofs;
    private final Tally tally;
    private final Auditor auditor;
    private final long[] draft;
    private Group group;

    public BallotBoard() {
        Hash hash = new Hash();
        board = new Board(hash);
        proofs = new Proofs(hash);
        tally = new Tally();
        auditor = new Auditor(board, proofs);
        draft = new long[ROW];
        group = null;
    }

    public long begin(long p, long g, int n) throws IllegalArgumentException {
        Group found = Group.of(p, g);
        if (found == null) {
            throw new IllegalArgumentException("p or g makes no group");
        }
        if (n < 1 || n > MOST_TRUSTEES) {
            throw new IllegalArgumentException("the trustees are not 1 to 4");
        }
        group = found;
        tally.start(group, n);
        board.clear();
        auditor.forgetFrom(0);
        return group.q();
    }

    public int key(int i, long h, long c, long z) throws IllegalStateException, IllegalArgumentException {
        expectKeyDue(i);
        expectTrustee(i);
        fillDraft(KEY, i, h, c, z);
        return post();
    }

    public int makeKey(int i, long x, long w) throws IllegalStateException, IllegalArgumentException {
        expectKeyDue(i);
        expectTrustee(i);
        expectExponents(x, w);
        fillDraft(KEY, i, 0, 0, 0);
        proofs.writeKey(tally, draft, x, w);
        return post();
    }

    public int ballot(int i, long a, long b, long c, long z, long d, long y)
            throws IllegalStateException, IndexOutOfBoundsException, IllegalArgumentException {
        expectBallotDue();
        expectVoter(i);
        fillDraft(BALLOT, i, a, b, c);
        draft[BALLOT_Z] = z;
        draft[BALLOT_D] = d;
        draft[BALLOT_Y] = y;
        return post();
    }

    public int makeBallot(int i, boolean yes, long r, long w, long e, long f)
            throws IllegalStateException, IndexOutOfBoundsException, IllegalArgumentException {
        expectBallotDue();
        expectVoter(i);
        expectExponents(r, w);
        expectExponents(e, f);
        fillDraft(BALLOT, i, 0, 0, 0);
        if (yes) {
            proofs.writeYes(tally, draft, r, w, e, f);
        } else {
            proofs.writeNo(tally, draft, r, w, e, f);
        }
        return post();
    }

    public int close() throws IllegalStateException {
        expectOpenWithKeys();
        tally.shut();
        return tally.ballots();
    }

    public int share(int i, long s, long c, long z) throws IllegalStateException, IllegalArgumentException {
        expectShareDue(i);
        expectTrustee(i);
        fillDraft(SHARE, i, s, c, z);
        return post();
    }

    public int makeShare(int i, long x, long w) throws IllegalStateException, IllegalArgumentException {
        expectShareDue(i);
        expectTrustee(i);
        expectExponents(x, w);
        fillDraft(SHARE, i, 0, 0, 0);
        proofs.writeShare(tally, draft, x, w);
        return post();
    }

    public int result() throws IllegalStateException {
        expectShut();
        if (!tally.hasAllShares()) {
            throw new IllegalStateException("not all shares are there");
        }
        return tally.outcome();
    }

    public long entry(int k, int n) throws IndexOutOfBoundsException {
        if (!board.has(k, n)) {
            throw new IndexOutOfBoundsException("there is no such number");
        }
        return board.row(k)[n];
    }

    public long chain(int k, int word) throws IndexOutOfBoundsException {
        if (!board.has(k, KIND) || word < 0 || word >= CHAIN_WORDS) {
            throw new IndexOutOfBoundsException("there is no such word");
        }
        return board.link(k)[word];
    }

    public long spoil(int k, int n, long v) throws IndexOutOfBoundsException {
        if (n < HEAD || !board.has(k, n)) {
            throw new IndexOutOfBoundsException("there is no such number to spoil");
        }
        long[] row = board.row(k);
        long old = row[n];
        row[n] = v;
        auditor.forgetFrom(k);
        return old;
    }

    public int audit() throws IllegalStateException {
        expectGroup();
        return auditor.firstWrong(group, tally.trustees());
    }

    public long count(int what) throws IllegalArgumentException {
        switch (what) {
            case 0:
                return group == null ? 0 : group.p();
            case 1:
                return group == null ? 0 : group.q();
            case 2:
                return group == null ? 0 : group.g();
            case 3:
                return tally.commonKey();
            case 4:
                return tally.productA();
            case 5:
                return tally.productB();
            case 6:
                return board.size();
            case 7:
                return tally.ballots();
            case 8:
                return tally.keys();
            case 9:
                return tally.shares();
            case 10:
                return tally.isShut() ? 1 : 0;
            default:
                throw new IllegalArgumentException("there is no such count");
        }
    }

    private void expectGroup() {
        if (group == null) {
            throw new IllegalStateException("there is no group");
        }
    }

    private void expectOpen() {
        expectGroup();
        if (tally.isShut()) {
            throw new IllegalStateException("it is closed");
        }
    }

    private void expectKeyDue(int i) {
        expectOpen();
        if (tally.hasKey(i)) {
            throw new IllegalStateException("the key is there");
        }
    }

    private void expectOpenWithKeys() {
        expectOpen();
        if (!tally.hasAllKeys()) {
            throw new IllegalStateException("not all keys are there");
        }
    }

    private void expectBallotDue() {
        expectOpenWithKeys();
        if (board.size() >= ROOM_FOR_BALLOTS) {
            throw new IndexOutOfBoundsException("the board has no room for a ballot");
        }
    }

    private void expectShut() {
        if (group == null || !tally.isShut()) {
            throw new IllegalStateException("it is not closed");
        }
    }

    private void expectShareDue(int i) {
        expectShut();
        if (tally.hasShare(i)) {
            throw new IllegalStateException("the share is there");
        }
    }

    private void expectTrustee(int i) {
        if (!tally.hasTrustee(i)) {
            throw new IllegalArgumentException("there is no such trustee");
        }
    }

    private void expectVoter(int i) {
        if (i < 0 || i >= VOTERS) {
            throw new IllegalArgumentException("there is no such voter");
        }
    }

    private void expectExponents(long first, long second) {
        if (!group.hasExponent(first) || !group.hasExponent(second)) {
            throw new IllegalArgumentException("no exponent");
        }
    }

    private void fillDraft(int kind, int who, long first, long second, long third) {
        draft[KIND] = kind;
        draft[WHO] = who;
        draft[HEAD] = first;
        draft[HEAD + 1] = second;
        draft[HEAD + 2] = third;
    }

    private int post() {
        if (!proofs.hold(tally, draft)) {
            throw new IllegalArgumentException("the proof does not hold");
        }
        tally.take(draft);
        return board.add(draft);
    }

    /**
     * Numbers modulo an odd n, 3 to 2 ** 61. A product of two of them does not fit a long, so it is
     * made by Montgomery's method, in digits of 31 bits, whose sums of products stay below 2 ** 63.
     */
    private static final class Modulus {
        private static final int DIGIT = 31;
        private static final long MASK = (1L << DIGIT) - 1;
        private static final int NEWTON_STEPS = 4;
        private static final int MOST_BITS = 61;
        /** By Jiang and Deng these settle every number below 3825123056546413051, beyond 2 ** 61. */
        private static final int[] WITNESSES = {2, 3, 5, 7, 11, 13, 17, 19, 23};

        private final long n;
        private final long low;
        private final long high;
        private final long factor;
        private final long one;
        private final long square;
        private final int bits;

        Modulus(long n) {
            this.n = n;
            low = n & MASK;
            high = n >>> DIGIT;
            factor = negatedInverse(n);
            one = doubled(1, 2 * DIGIT, n);
            square = doubled(one, 2 * DIGIT, n);
            bits = bitsOf(n);
        }

        long size() {
            return n;
        }

        long plus(long a, long b) {
            long sum = a + b;
            return sum >= n ? sum - n : sum;
        }

        long minus(long a, long b) {
            return a >= b ? a - b : a - b + n;
        }

        long times(long a, long b) {
            return reduced(reduced(a, b), square);
        }

        long power(long x, long e) {
            long base = reduced(x, square);
            long product = one;
            for (int bit = bits - 1; bit >= 0; bit--) {
                product = reduced(product, product);
                if ((e >>> bit & 1) == 1) {
                    product = reduced(product, base);
                }
            }
            return reduced(product, 1);
        }

        /** x ** e * y ** f: both together, as they share their squarings. */
        long powers(long x, long e, long y, long f) {
            long first = reduced(x, square);
            long second = reduced(y, square);
            long both = reduced(first, second);
            long product = one;
            for (int bit = bits - 1; bit >= 0; bit--) {
                product = reduced(product, product);
                boolean inE = (e >>> bit & 1) == 1;
                boolean inF = (f >>> bit & 1) == 1;
                if (inE && inF) {
                    product = reduced(product, both);
                } else if (inE) {
                    product = reduced(product, first);
                } else if (inF) {
                    product = reduced(product, second);
                }
            }
            return reduced(product, 1);
        }

        /** What the number without sign leaves; halved first, as Java's own remainder has a sign. */
        long leftOf(long unsigned) {
            long half = (unsigned >>> 1) % n;
            return (2 * half + (unsigned & 1)) % n;
        }

        boolean isPrime() {
            long odd = n - 1;
            int halvings = 0;
            for (int bit = 0; bit < MOST_BITS && (odd & 1) == 0; bit++) {
                odd >>= 1;
                halvings++;
            }
            for (int witness : WITNESSES) {
                long base = witness % n;
                if (base != 0 && !passes(power(base, odd), halvings)) {
                    return false;
                }
            }
            return true;
        }

        /** Miller and Rabin: a prime has no square roots of 1 but 1 and n - 1. */
        private boolean passes(long start, int halvings) {
            long x = start;
            boolean passed = x == 1 || x == n - 1;
            for (int i = 1; i < halvings && !passed; i++) {
                x = times(x, x);
                passed = x == n - 1;
            }
            return passed;
        }

        /**
         * a * b / 2 ** 62: b is taken digit by digit, and each time as many n are added as make the
         * lowest digit of the sum 0, which is then dropped.
         */
        private long reduced(long a, long b) {
            long aLow = a & MASK;
            long aHigh = a >>> DIGIT;
            long digit = b & MASK;
            long bottom = aLow * digit;
            long added = bottom * factor & MASK;
            long sum = aHigh * digit + added * high + (bottom + added * low >>> DIGIT);
            digit = b >>> DIGIT;
            bottom = (sum & MASK) + aLow * digit;
            added = bottom * factor & MASK;
            sum = (sum >>> DIGIT) + aHigh * digit + added * high + (bottom + added * low >>> DIGIT);
            return sum >= n ? sum - n : sum;
        }

        /** -1 / n modulo 2 ** 31: n is its own inverse modulo 8, each step doubles the bits that are right. */
        private static long negatedInverse(long n) {
            long inverse = n;
            for (int i = 0; i < NEWTON_STEPS; i++) {
                inverse *= 2 - n * inverse;
            }
            return -inverse & MASK;
        }

        private static long doubled(long x, int times, long n) {
            long left = x;
            for (int i = 0; i < times; i++) {
                left = 2 * left >= n ? 2 * left - n : 2 * left;
            }
            return left;
        }

        private static int bitsOf(long n) {
            int bits = 0;
            while (bits < MOST_BITS && n >>> bits != 0) {
                bits++;
            }
            return bits;
        }
    }

    /** THE GROUP, and its exponents. */
    private static final class Group {
        private static final long LEAST = 7;
        private static final long MOST = 1L << 61;

        private final Modulus field;
        private final Modulus exponents;
        private final long g;
        private final long inverse;

        private Group(Modulus field, Modulus exponents, long g) {
            this.field = field;
            this.exponents = exponents;
            this.g = g;
            inverse = field.power(g, exponents.size() - 1);
        }

        /** The group of p and g, null if there is none. */
        static Group of(long p, long g) {
            // A prime q of 3 or more is odd, so p leaves 3 divided by 4; Modulus needs both odd.
            if (p < LEAST || p > MOST || (p & 3) != 3 || g < 2 || g >= p) {
                return null;
            }
            Modulus field = new Modulus(p);
            Modulus exponents = new Modulus(p >> 1);
            if (!exponents.isPrime() || !field.isPrime()) {
                return null;
            }
            Group group = new Group(field, exponents, g);
            return group.has(g) ? group : null;
        }

        long p() {
            return field.size();
        }

        long q() {
            return exponents.size();
        }

        long g() {
            return g;
        }

        boolean has(long y) {
            return y >= 1 && y < field.size() && field.power(y, exponents.size()) == 1;
        }

        boolean hasExponent(long e) {
            return e >= 0 && e < exponents.size();
        }

        long product(long a, long b) {
            return field.times(a, b);
        }

        long power(long y, long e) {
            return field.power(y, e);
        }

        /** y / g. */
        long overG(long y) {
            return field.times(y, inverse);
        }

        /** base ** z * y ** (0 - c). */
        long opened(long base, long z, long y, long c) {
            return field.powers(base, z, y, exponents.minus(0, c));
        }

        long sum(long c, long d) {
            return exponents.plus(c, d);
        }

        long difference(long c, long d) {
            return exponents.minus(c, d);
        }

        /** w + c * x. */
        long response(long w, long c, long x) {
            return exponents.plus(w, exponents.times(c, x));
        }

        long exponentOf(long unsigned) {
            return exponents.leftOf(unsigned);
        }
    }

    /** SHA-256 (FIPS 180-4) of up to 14 numbers of 8 octets: two blocks hold all that is hashed here. */
    private static final class Hash {
        private static final int[] ROUNDS = {
            0x428a2f98, 0x71374491, 0xb5c0fbcf, 0xe9b5dba5, 0x3956c25b, 0x59f111f1, 0x923f82a4, 0xab1c5ed5,
            0xd807aa98, 0x12835b01, 0x243185be, 0x550c7dc3, 0x72be5d74, 0x80deb1fe, 0x9bdc06a7, 0xc19bf174,
            0xe49b69c1, 0xefbe4786, 0x0fc19dc6, 0x240ca1cc, 0x2de92c6f, 0x4a7484aa, 0x5cb0a9dc, 0x76f988da,
            0x983e5152, 0xa831c66d, 0xb00327c8, 0xbf597fc7, 0xc6e00bf3, 0xd5a79147, 0x06ca6351, 0x14292967,
            0x27b70a85, 0x2e1b2138, 0x4d2c6dfc, 0x53380d13, 0x650a7354, 0x766a0abb, 0x81c2c92e, 0x92722c85,
            0xa2bfe8a1, 0xa81a664b, 0xc24b8b70, 0xc76c51a3, 0xd192e819, 0xd6990624, 0xf40e3585, 0x106aa070,
            0x19a4c116, 0x1e376c08, 0x2748774c, 0x34b0bcb5, 0x391c0cb3, 0x4ed8aa4a, 0x5b9cca4f, 0x682e6ff3,
            0x748f82ee, 0x78a5636f, 0x84c87814, 0x8cc70208, 0x90befffa, 0xa4506ceb, 0xbef9a3f7, 0xc67178f2
        };
        private static final int[] START = {
            0x6a09e667, 0xbb67ae85, 0x3c6ef372, 0xa54ff53a, 0x510e527f, 0x9b05688c, 0x1f83d9ab, 0x5be0cd19
        };
        private static final int BLOCK = 8;
        private static final int WORDS = 2 * BLOCK;
        private static final int MOST_NUMBERS = WORDS - 2;
        private static final long END_MARK = 1L << 63;

        private final long[] words;
        private final int[] schedule;
        private final int[] state;
        private int length;

        Hash() {
            words = new long[WORDS];
            schedule = new int[ROUNDS.length];
            state = new int[START.length];
            length = 0;
        }

        void start() {
            length = 0;
        }

        void add(long number) {
            if (length < MOST_NUMBERS) {
                words[length] = number;
                length++;
            }
        }

        void finish() {
            int padded = length + 2 <= BLOCK ? BLOCK : WORDS;
            words[length] = END_MARK;
            for (int i = length + 1; i < padded - 1; i++) {
                words[i] = 0;
            }
            words[padded - 1] = length * 64L;
            System.arraycopy(START, 0, state, 0, START.length);
            for (int from = 0; from < padded; from += BLOCK) {
                spread(from);
                mix();
            }
        }

        /** 64 bits of what came out, word 0 to 3. */
        long word(int i) {
            return (long) state[2 * i] << 32 | state[2 * i + 1] & 0xffffffffL;
        }

        private void spread(int from) {
            for (int i = 0; i < BLOCK; i++) {
                schedule[2 * i] = (int) (words[from + i] >>> 32);
                schedule[2 * i + 1] = (int) words[from + i];
            }
            for (int i = WORDS; i < schedule.length; i++) {
                int early = schedule[i - 15];
                int late = schedule[i - 2];
                int first = turned(early, 7) ^ turned(early, 18) ^ early >>> 3;
                int second = turned(late, 17) ^ turned(late, 19) ^ late >>> 10;
                schedule[i] = schedule[i - 16] + first + schedule[i - 7] + second;
            }
        }

        private void mix() {
            int a = state[0];
            int b = state[1];
            int c = state[2];
            int d = state[3];
            int e = state[4];
            int f = state[5];
            int g = state[6];
            int h = state[7];
            for (int i = 0; i < ROUNDS.length; i++) {
                int choice = e & f ^ ~e & g;
                int majority = a & b ^ a & c ^ b & c;
                int first = h + (turned(e, 6) ^ turned(e, 11) ^ turned(e, 25)) + choice + ROUNDS[i] + schedule[i];
                int second = (turned(a, 2) ^ turned(a, 13) ^ turned(a, 22)) + majority;
                h = g;
                g = f;
                f = e;
                e = d + first;
                d = c;
                c = b;
                b = a;
                a = first + second;
            }
            state[0] += a;
            state[1] += b;
            state[2] += c;
            state[3] += d;
            state[4] += e;
            state[5] += f;
            state[6] += g;
            state[7] += h;
        }

        private static int turned(int x, int right) {
            return x >>> right | x << 32 - right;
        }
    }

    /** The entries as they stand, and THE CHAIN as it was made. */
    private static final class Board {
        private final Hash hash;
        private final long[][] rows;
        private final long[][] links;
        private int size;

        Board(Hash hash) {
            this.hash = hash;
            rows = new long[ROOM][ROW];
            links = new long[ROOM][CHAIN_WORDS];
            size = 0;
        }

        void clear() {
            size = 0;
        }

        int size() {
            return size;
        }

        boolean has(int k, int n) {
            return k >= 0 && k < size && n >= 0 && n < width(rows[k]);
        }

        long[] row(int k) {
            return rows[k];
        }

        long[] link(int k) {
            return links[k];
        }

        /** The number of the new entry. */
        int add(long[] row) {
            int k = size;
            System.arraycopy(row, 0, rows[k], 0, ROW);
            hashEntry(k);
            for (int word = 0; word < CHAIN_WORDS; word++) {
                links[k][word] = hash.word(word);
            }
            size++;
            return k;
        }

        boolean isLinked(int k) {
            hashEntry(k);
            boolean same = true;
            for (int word = 0; word < CHAIN_WORDS; word++) {
                same = same && links[k][word] == hash.word(word);
            }
            return same;
        }

        private void hashEntry(int k) {
            hash.start();
            for (int word = 0; word < CHAIN_WORDS; word++) {
                hash.add(k == 0 ? 0 : links[k - 1][word]);
            }
            int width = width(rows[k]);
            for (int n = 0; n < width; n++) {
                hash.add(rows[k][n]);
            }
            hash.finish();
        }

        private static int width(long[] row) {
            return row[KIND] == BALLOT ? ROW : SHORT_ROW;
        }
    }

    /** What follows from the entries taken so far: the keys, what counts, and their products. */
    private static final class Tally {
        /** 0 stands for what is not there: nothing in a group is 0. */
        private final long[] keyOf;
        private final long[] aOf;
        private final long[] bOf;
        private final long[] shareOf;
        private Group group;
        private int trustees;
        private int keys;
        private int ballots;
        private int shares;
        private long keyProduct;
        private long shareProduct;
        private long productA;
        private long productB;
        private boolean shut;

        Tally() {
            keyOf = new long[MOST_TRUSTEES];
            shareOf = new long[MOST_TRUSTEES];
            aOf = new long[VOTERS];
            bOf = new long[VOTERS];
        }

        void start(Group newGroup, int newTrustees) {
            group = newGroup;
            trustees = newTrustees;
            keys = 0;
            ballots = 0;
            shares = 0;
            keyProduct = 1;
            shareProduct = 1;
            productA = 0;
            productB = 0;
            shut = false;
            for (int i = 0; i < MOST_TRUSTEES; i++) {
                keyOf[i] = 0;
                shareOf[i] = 0;
            }
            for (int i = 0; i < VOTERS; i++) {
                aOf[i] = 0;
                bOf[i] = 0;
            }
        }

        Group group() {
            return group;
        }

        int trustees() {
            return trustees;
        }

        int keys() {
            return keys;
        }

        int ballots() {
            return ballots;
        }

        int shares() {
            return shares;
        }

        boolean isShut() {
            return shut;
        }

        boolean hasTrustee(int i) {
            return i >= 0 && i < trustees;
        }

        boolean hasKey(int i) {
            return hasTrustee(i) && keyOf[i] != 0;
        }

        boolean hasShare(int i) {
            return hasTrustee(i) && shareOf[i] != 0;
        }

        boolean hasAllKeys() {
            return trustees > 0 && keys == trustees;
        }

        boolean hasAllShares() {
            return trustees > 0 && shares == trustees;
        }

        long keyOf(int i) {
            return hasTrustee(i) ? keyOf[i] : 0;
        }

        /** K, 0 while a key is missing. */
        long commonKey() {
            return hasAllKeys() ? keyProduct : 0;
        }

        long productA() {
            return productA;
        }

        long productB() {
            return productB;
        }

        void take(long[] row) {
            int who = (int) row[WHO];
            if (row[KIND] == BALLOT) {
                takeBallot(who, row[BALLOT_A], row[BALLOT_B]);
            } else if (row[KIND] == KEY) {
                takeKey(who, row[HEAD]);
            } else {
                takeShare(who, row[HEAD]);
            }
        }

        void shut() {
            productA = 1;
            productB = 1;
            for (int i = 0; i < VOTERS; i++) {
                if (aOf[i] != 0) {
                    productA = group.product(productA, aOf[i]);
                    productB = group.product(productB, bOf[i]);
                }
            }
            shut = true;
        }

        /** THE RESULT: g ** m * shares is set against B, which spares a division. */
        int outcome() {
            long reached = shareProduct;
            for (int m = 0; m <= ballots; m++) {
                if (reached == productB) {
                    return m;
                }
                reached = group.product(reached, group.g());
            }
            return -1;
        }

        private void takeKey(int i, long h) {
            if (hasTrustee(i)) {
                keyOf[i] = h;
                keyProduct = group.product(keyProduct, h);
                keys++;
            }
        }

        private void takeBallot(int i, long a, long b) {
            if (i >= 0 && i < VOTERS) {
                if (aOf[i] == 0) {
                    ballots++;
                }
                aOf[i] = a;
                bOf[i] = b;
            }
        }

        private void takeShare(int i, long s) {
            if (hasTrustee(i)) {
                shareOf[i] = s;
                shareProduct = group.product(shareProduct, s);
                shares++;
            }
        }
    }

    /** Looks at the proofs of entries, and writes entries by the rules. */
    private static final class Proofs {
        private final Hash hash;
        /** What H is told last: the powers that a proof commits to. */
        private final long[] commitments;

        Proofs(Hash hash) {
            this.hash = hash;
            commitments = new long[4];
        }

        boolean hold(Tally tally, long[] row) {
            Group group = tally.group();
            if (row[KIND] == BALLOT) {
                if (!isBallotSound(group, row)) {
                    return false;
                }
                openForZero(tally, row);
                openForOne(tally, row);
                return group.sum(row[BALLOT_C], row[BALLOT_D]) == challenge(tally, row);
            }
            if (!isHeadSound(group, row)) {
                return false;
            }
            openHead(tally, row);
            return row[HEAD_C] == challenge(tally, row);
        }

        void writeKey(Tally tally, long[] row, long x, long w) {
            Group group = tally.group();
            row[HEAD] = group.power(group.g(), x);
            commitments[0] = group.power(group.g(), w);
            row[HEAD_C] = challenge(tally, row);
            row[HEAD_Z] = group.response(w, row[HEAD_C], x);
        }

        void writeShare(Tally tally, long[] row, long x, long w) {
            Group group = tally.group();
            row[HEAD] = group.power(tally.productA(), x);
            commitments[0] = group.power(group.g(), w);
            commitments[1] = group.power(tally.productA(), w);
            row[HEAD_C] = challenge(tally, row);
            row[HEAD_Z] = group.response(w, row[HEAD_C], x);
        }

        void writeNo(Tally tally, long[] row, long r, long w, long e, long f) {
            Group group = tally.group();
            row[BALLOT_A] = group.power(group.g(), r);
            row[BALLOT_B] = group.power(tally.commonKey(), r);
            row[BALLOT_D] = e;
            row[BALLOT_Y] = f;
            commitments[0] = group.power(group.g(), w);
            commitments[1] = group.power(tally.commonKey(), w);
            openForOne(tally, row);
            row[BALLOT_C] = group.difference(challenge(tally, row), e);
            row[BALLOT_Z] = group.response(w, row[BALLOT_C], r);
        }

        void writeYes(Tally tally, long[] row, long r, long w, long e, long f) {
            Group group = tally.group();
            row[BALLOT_A] = group.power(group.g(), r);
            row[BALLOT_B] = group.product(group.power(tally.commonKey(), r), group.g());
            row[BALLOT_C] = e;
            row[BALLOT_Z] = f;
            openForZero(tally, row);
            commitments[2] = group.power(group.g(), w);
            commitments[3] = group.power(tally.commonKey(), w);
            row[BALLOT_D] = group.difference(challenge(tally, row), e);
            row[BALLOT_Y] = group.response(w, row[BALLOT_D], r);
        }

        private boolean isHeadSound(Group group, long[] row) {
            return group.hasExponent(row[HEAD_C]) && group.hasExponent(row[HEAD_Z]) && group.has(row[HEAD]);
        }

        private boolean isBallotSound(Group group, long[] row) {
            for (int n = BALLOT_C; n <= BALLOT_Y; n++) {
                if (!group.hasExponent(row[n])) {
                    return false;
                }
            }
            return group.has(row[BALLOT_A]) && group.has(row[BALLOT_B]);
        }

        private void openHead(Tally tally, long[] row) {
            Group group = tally.group();
            long c = row[HEAD_C];
            long z = row[HEAD_Z];
            if (row[KIND] == KEY) {
                commitments[0] = group.opened(group.g(), z, row[HEAD], c);
            } else {
                commitments[0] = group.opened(group.g(), z, tally.keyOf((int) row[WHO]), c);
                commitments[1] = group.opened(tally.productA(), z, row[HEAD], c);
            }
        }

        private void openForZero(Tally tally, long[] row) {
            Group group = tally.group();
            long c = row[BALLOT_C];
            long z = row[BALLOT_Z];
            commitments[0] = group.opened(group.g(), z, row[BALLOT_A], c);
            commitments[1] = group.opened(tally.commonKey(), z, row[BALLOT_B], c);
        }

        private void openForOne(Tally tally, long[] row) {
            Group group = tally.group();
            long d = row[BALLOT_D];
            long y = row[BALLOT_Y];
            commitments[2] = group.opened(group.g(), y, row[BALLOT_A], d);
            commitments[3] = group.opened(tally.commonKey(), y, group.overG(row[BALLOT_B]), d);
        }

        /** H of the entry with the commitments that were put down. */
        private long challenge(Tally tally, long[] row) {
            Group group = tally.group();
            hash.start();
            hash.add(group.p());
            hash.add(group.g());
            hash.add(row[KIND]);
            hash.add(row[WHO]);
            int committed = 1;
            if (row[KIND] == BALLOT) {
                hash.add(row[BALLOT_A]);
                hash.add(row[BALLOT_B]);
                committed = 4;
            } else if (row[KIND] == SHARE) {
                hash.add(tally.productA());
                hash.add(row[HEAD]);
                committed = 2;
            } else {
                hash.add(row[HEAD]);
            }
            for (int i = 0; i < committed; i++) {
                hash.add(commitments[i]);
            }
            hash.finish();
            return group.exponentOf(hash.word(0));
        }
    }

    /** THE AUDITOR. */
    private static final class Auditor {
        private final Board board;
        private final Proofs proofs;
        private final Tally tally;
        /**
         * How many leading entries were found as they should be and stand unchanged since. An entry is
         * judged by those before it alone, so these need not be looked at again.
         */
        private int sound;

        Auditor(Board board, Proofs proofs) {
            this.board = board;
            this.proofs = proofs;
            tally = new Tally();
            sound = 0;
        }

        void forgetFrom(int k) {
            sound = Math.min(sound, k);
        }

        /** -1 if there is none. */
        int firstWrong(Group group, int trustees) {
            tally.start(group, trustees);
            for (int k = 0; k < board.size(); k++) {
                long[] row = board.row(k);
                if (row[KIND] == SHARE && !tally.isShut()) {
                    tally.shut();
                }
                if (k >= sound && !(board.isLinked(k) && proofs.hold(tally, row))) {
                    return k;
                }
                sound = Math.max(sound, k + 1);
                tally.take(row);
            }
            return -1;
        }
    }
}
