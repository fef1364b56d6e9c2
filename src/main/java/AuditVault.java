/**
 * An audit vault: a monitor whose acts are entries of a log, kept in a chain and a tree of hashes
 * and written as frames on a disk whose power may be cut. The document is ../shared/DOC.md.
 *
 * <p>Every row is made in a constructor and used again, so that no call makes an object.
 */
public final class AuditVault {
    public static final int NONE = -1, BAD = -2, SHUT = -3, FULL = -4, NOT = -5;

    private static final int SUBJECTS = 12, OBJECTS = 16, RIGHTS = 4, LEVELS = 8, GROUPS = 4;
    private static final int FIRST_GROUP = 16, PARTIES = FIRST_GROUP + GROUPS;
    private static final int READ = 0, WRITE = 1, ADD = 2;
    private static final int ALLOWED = 0, LOCKED = 1, UP = 2, DOWN = 3, LACK = 4;
    private static final int REFUSALS_THAT_LOCK = 3;
    private static final int KIND_REQUEST = 0, KIND_GIVEN = 1, KIND_TAKEN = 2;
    private static final int KIND_SUBJECT = 3, KIND_OBJECT = 4, KIND_UNLOCK = 5;
    private static final int MOST_MORE = 1000000, MOST_CLOCK = 2000000000;
    private static final int MOST_ENTRIES = 60, ENTRY_BYTES = 12, ENTRY_MARK = 165;
    private static final int HASH_BYTES = 32, HASH_WORDS = 8;
    private static final int LEAF_MARK = 0, PAIR_MARK = 1;
    private static final int TOP_LEVEL = 6, NODES = 127;
    private static final int MOST_PROOF = 8, KEPT_ROOTS = 4;
    private static final int FRAME_BYTES = 17, FRAME_MARK = 90, DISK_BYTES = 1020;
    private static final int MOST_HASHED = 16, MOST_MASK = 255;

    private static final int[] HASH_START = {
        0x6a09e667, 0xbb67ae85, 0x3c6ef372, 0xa54ff53a, 0x510e527f, 0x9b05688c, 0x1f83d9ab, 0x5be0cd19
    };

    private static final int[] HASH_ROUND = {
        0x428a2f98, 0x71374491, 0xb5c0fbcf, 0xe9b5dba5, 0x3956c25b, 0x59f111f1, 0x923f82a4, 0xab1c5ed5,
        0xd807aa98, 0x12835b01, 0x243185be, 0x550c7dc3, 0x72be5d74, 0x80deb1fe, 0x9bdc06a7, 0xc19bf174,
        0xe49b69c1, 0xefbe4786, 0x0fc19dc6, 0x240ca1cc, 0x2de92c6f, 0x4a7484aa, 0x5cb0a9dc, 0x76f988da,
        0x983e5152, 0xa831c66d, 0xb00327c8, 0xbf597fc7, 0xc6e00bf3, 0xd5a79147, 0x06ca6351, 0x14292967,
        0x27b70a85, 0x2e1b2138, 0x4d2c6dfc, 0x53380d13, 0x650a7354, 0x766a0abb, 0x81c2c92e, 0x92722c85,
        0xa2bfe8a1, 0xa81a664b, 0xc24b8b70, 0xc76c51a3, 0xd192e819, 0xd6990624, 0xf40e3585, 0x106aa070,
        0x19a4c116, 0x1e376c08, 0x2748774c, 0x34b0bcb5, 0x391c0cb3, 0x4ed8aa4a, 0x5b9cca4f, 0x682e6ff3,
        0x748f82ee, 0x78a5636f, 0x84c87814, 0x8cc70208, 0x90befffa, 0xa4506ceb, 0xbef9a3f7, 0xc67178f2
    };

    private final Monitor monitor;
    private final Hasher hasher;
    private final Tree tree;
    private final Log log;
    private final Proof proofRow;
    private final Hashes keptRoots;
    private final Judge judge;
    private final Disk store;
    private final Hashes answer;
    private int time;
    private boolean shut;

    public AuditVault() {
        monitor = new Monitor();
        hasher = new Hasher();
        tree = new Tree(hasher);
        log = new Log(hasher, tree);
        proofRow = new Proof(tree);
        keptRoots = new Hashes(KEPT_ROOTS);
        judge = new Judge(hasher, proofRow, keptRoots);
        store = new Disk();
        answer = new Hashes(1);
        time = 0;
        shut = false;
    }

    // ---- the monitor

    public int clock(int more) {
        if (!within(more, 0, MOST_MORE) || time + more > MOST_CLOCK) {
            return BAD;
        }
        time += more;
        return time;
    }

    public int request(int subject, int object, int right) {
        if (!isSubject(subject) || !isObject(object) || !isRight(right)) {
            return BAD;
        }
        int refusal = refusal();
        if (refusal != 0) {
            return refusal;
        }
        int cause = monitor.causeOf(subject, object, right);
        monitor.tally(subject, cause == ALLOWED);
        writeEntry(KIND_REQUEST, subject, object, right, cause);
        return cause;
    }

    public int give(int to, int object, int right) {
        return setGiven(to, object, right, true);
    }

    public int take(int from, int object, int right) {
        return setGiven(from, object, right, false);
    }

    public int subject(int subject, int level, int group) {
        if (!isSubject(subject) || !isLevel(level) || !within(group, 0, GROUPS - 1)) {
            return BAD;
        }
        int refusal = refusal();
        if (refusal != 0) {
            return refusal;
        }
        monitor.placeSubject(subject, level, group);
        writeEntry(KIND_SUBJECT, subject, level, group, 0);
        return 1;
    }

    public int object(int object, int level, int owner) {
        if (!isObject(object) || !isLevel(level) || !isSubject(owner)) {
            return BAD;
        }
        int refusal = refusal();
        if (refusal != 0) {
            return refusal;
        }
        monitor.placeObject(object, level, owner);
        writeEntry(KIND_OBJECT, object, level, owner, 0);
        return 1;
    }

    public int unlock(int subject) {
        if (!isSubject(subject)) {
            return BAD;
        }
        int refusal = refusal();
        if (refusal != 0) {
            return refusal;
        }
        boolean was = monitor.release(subject);
        writeEntry(KIND_UNLOCK, subject, 0, 0, 0);
        return was ? 1 : 0;
    }

    public int subjectAt(int subject, int what) {
        if (!isSubject(subject)) {
            return BAD;
        }
        return monitor.ofSubject(subject, what);
    }

    public int objectAt(int object, int what) {
        if (!isObject(object)) {
            return BAD;
        }
        return monitor.ofObject(object, what);
    }

    public int given(int to, int object, int right) {
        if (!isParty(to) || !isObject(object) || !isRight(right)) {
            return BAD;
        }
        return monitor.hasBeenGiven(to, object, right) ? 1 : 0;
    }

    // ---- the log

    public int entry(int i, int k) {
        if (!isEntry(i) || !within(k, 0, ENTRY_BYTES - 1)) {
            return BAD;
        }
        return log.entryByte(i, k);
    }

    public int chain(int i, int k) {
        if (!isLength(i) || !isHashByte(k)) {
            return BAD;
        }
        return log.linkByte(i, k);
    }

    public int root(int n, int k) {
        if (!isLength(n) || !isHashByte(k)) {
            return BAD;
        }
        tree.rootOf(0, n, answer, 0);
        return answer.byteAt(0, k);
    }

    public int path(int i, int n) {
        if (!isLength(n) || !within(i, 0, n - 1)) {
            return BAD;
        }
        return proofRow.becomePath(i, n);
    }

    public int steps(int m, int n) {
        if (!isLength(n) || !within(m, 1, n)) {
            return BAD;
        }
        return proofRow.becomeSteps(m, n);
    }

    public int proof(int h, int k) {
        if (!isProofHash(h) || !isHashByte(k)) {
            return BAD;
        }
        return proofRow.row.byteAt(h, k);
    }

    public int spoilProof(int h, int k, int mask) {
        if (!isProofHash(h) || !isHashByte(k) || !isMask(mask)) {
            return BAD;
        }
        return proofRow.row.spoilByte(h, k, mask);
    }

    public int cutProof(int n) {
        if (!within(n, 0, proofRow.size)) {
            return BAD;
        }
        int gone = proofRow.size - n;
        proofRow.size = n;
        return gone;
    }

    public int keep(int s, int n) {
        if (!isKeptRoot(s) || !isLength(n)) {
            return BAD;
        }
        tree.rootOf(0, n, keptRoots, s);
        return 1;
    }

    public int kept(int s, int k) {
        if (!isKeptRoot(s) || !isHashByte(k)) {
            return BAD;
        }
        return keptRoots.byteAt(s, k);
    }

    public int spoilKept(int s, int k, int mask) {
        if (!isKeptRoot(s) || !isHashByte(k) || !isMask(mask)) {
            return BAD;
        }
        return keptRoots.spoilByte(s, k, mask);
    }

    public int judgePath(int i, int n, int e, int s) {
        if (!within(i, 0, MOST_ENTRIES) || !within(n, 0, MOST_ENTRIES) || !isEntry(e) || !isKeptRoot(s)) {
            return BAD;
        }
        // A tree of the one entry alone has the leaf's hash as its root.
        tree.rootOf(e, e + 1, answer, 0);
        return judge.pathIsRight(i, n, answer, s) ? 1 : 0;
    }

    public int judgeSteps(int m, int n, int s, int t) {
        if (!within(m, 0, MOST_ENTRIES) || !within(n, 0, MOST_ENTRIES) || !isKeptRoot(s) || !isKeptRoot(t)) {
            return BAD;
        }
        return judge.stepsAreRight(m, n, s, t) ? 1 : 0;
    }

    // ---- the disk

    public int sync() {
        if (shut) {
            return SHUT;
        }
        store.safe = store.written;
        return store.safe;
    }

    public int cut(int n) {
        if (!within(n, 0, DISK_BYTES)) {
            return BAD;
        }
        if (shut) {
            return SHUT;
        }
        store.losePower(n);
        log.size = 0;
        shut = true;
        return store.written;
    }

    public int open() {
        if (!shut) {
            return NOT;
        }
        for (int place = 0; place < MOST_ENTRIES && readFrame(place); place++) {
            log.accept();
        }
        store.settle(log.size);
        shut = false;
        return log.size;
    }

    public int disk(int i) {
        if (!within(i, 0, DISK_BYTES - 1)) {
            return BAD;
        }
        return store.bytes[i];
    }

    public int spoil(int i, int mask) {
        if (!within(i, 0, DISK_BYTES - 1) || !isMask(mask)) {
            return BAD;
        }
        int was = store.bytes[i];
        store.bytes[i] = was ^ mask;
        return was;
    }

    public int audit() {
        if (shut) {
            return SHUT;
        }
        for (int i = 0; i < log.size; i++) {
            if (!store.holdsFrame(log, i)) {
                return i;
            }
        }
        return NONE;
    }

    public int hash(long a, long b, int n, int k) {
        if (!within(n, 0, MOST_HASHED) || !isHashByte(k)) {
            return BAD;
        }
        hasher.begin();
        for (int i = 0; i < n; i++) {
            long half = i < 8 ? a : b;
            hasher.add((int) (half >>> (56 - 8 * (i & 7))) & 255);
        }
        hasher.finish(answer, 0);
        return answer.byteAt(0, k);
    }

    public int count(int what) {
        switch (what) {
            case 0: return log.size;
            case 1: return store.written;
            case 2: return store.safe;
            case 3: return shut ? 1 : 0;
            case 4: return time;
            case 5: return proofRow.size;
            case 6: return monitor.allowed;
            case 7: return monitor.denied;
            default: return BAD;
        }
    }

    public long digest() {
        long h = 17;
        for (int subject = 0; subject < SUBJECTS; subject++) {
            for (int what = 0; what < 4; what++) {
                h = 31 * h + subjectAt(subject, what);
            }
        }
        for (int object = 0; object < OBJECTS; object++) {
            for (int what = 0; what < 2; what++) {
                h = 31 * h + objectAt(object, what);
            }
        }
        for (int i = 0; i < DISK_BYTES; i++) {
            h = 31 * h + store.bytes[i];
        }
        for (int what = 0; what < 6; what++) {
            h = 31 * h + count(what);
        }
        return h;
    }

    // ---- what the calls share

    private static boolean within(int value, int least, int most) {
        return value >= least && value <= most;
    }

    private static boolean isSubject(int subject) {
        return within(subject, 0, SUBJECTS - 1);
    }

    private static boolean isObject(int object) {
        return within(object, 0, OBJECTS - 1);
    }

    private static boolean isRight(int right) {
        return within(right, 0, RIGHTS - 1);
    }

    private static boolean isLevel(int level) {
        return within(level, 0, LEVELS - 1);
    }

    private static boolean isParty(int party) {
        return isSubject(party) || within(party, FIRST_GROUP, PARTIES - 1);
    }

    private static boolean isHashByte(int k) {
        return within(k, 0, HASH_BYTES - 1);
    }

    private static boolean isMask(int mask) {
        return within(mask, 1, MOST_MASK);
    }

    private static boolean isKeptRoot(int s) {
        return within(s, 0, KEPT_ROOTS - 1);
    }

    private boolean isEntry(int i) {
        return within(i, 0, log.size - 1);
    }

    private boolean isLength(int n) {
        return within(n, 0, log.size);
    }

    private boolean isProofHash(int h) {
        return within(h, 0, proofRow.size - 1);
    }

    /** Why no act can be logged now; 0: one can. */
    private int refusal() {
        if (shut) {
            return SHUT;
        }
        return log.size >= MOST_ENTRIES ? FULL : 0;
    }

    private int setGiven(int party, int object, int right, boolean now) {
        if (!isParty(party) || !isObject(object) || !isRight(right)) {
            return BAD;
        }
        int refusal = refusal();
        if (refusal != 0) {
            return refusal;
        }
        boolean was = monitor.hasBeenGiven(party, object, right);
        monitor.setRight(party, object, right, now);
        writeEntry(now ? KIND_GIVEN : KIND_TAKEN, party, object, right, 0);
        return was != now ? 1 : 0;
    }

    private void writeEntry(int kind, int a, int b, int c, int cause) {
        log.draftHead(kind, a, b, c, cause);
        log.draftTime(time);
        log.linkDraft();
        log.accept();
        store.writeFrame(log, log.size - 1);
    }

    /** Drafts the entry in the frame at a place, and tells whether the frame is right. */
    private boolean readFrame(int place) {
        for (int k = 0; k < ENTRY_BYTES; k++) {
            log.draftByte(k, store.bytes[place * FRAME_BYTES + 1 + k]);
        }
        log.linkDraft();
        int number = log.entryByte(place, 0) << 8 | log.entryByte(place, 1);
        return number == place && store.holdsFrame(log, place);
    }

    /** Who stands where, who was given what, and who is locked. */
    private static final class Monitor {
        private final int[] subjectLevels = new int[SUBJECTS];
        private final int[] subjectGroups = new int[SUBJECTS];
        private final boolean[] subjectLocks = new boolean[SUBJECTS];
        private final int[] refusals = new int[SUBJECTS];
        private final int[] objectLevels = new int[OBJECTS];
        private final int[] objectOwners = new int[OBJECTS];
        private final boolean[] rights = new boolean[PARTIES * OBJECTS * RIGHTS];
        private int allowed = 0;
        private int denied = 0;

        private int causeOf(int subject, int object, int right) {
            int level = subjectLevels[subject];
            int wall = objectLevels[object];
            if (subjectLocks[subject]) {
                return LOCKED;
            }
            if ((right == READ || right == WRITE) && level < wall) {
                return UP;
            }
            if ((right == WRITE || right == ADD) && level > wall) {
                return DOWN;
            }
            return holds(subject, object, right) ? ALLOWED : LACK;
        }

        private boolean holds(int subject, int object, int right) {
            return objectOwners[object] == subject
                || hasBeenGiven(subject, object, right)
                || hasBeenGiven(FIRST_GROUP + subjectGroups[subject], object, right);
        }

        private void tally(int subject, boolean wasAllowed) {
            if (wasAllowed) {
                allowed++;
                refusals[subject] = 0;
                return;
            }
            denied++;
            refusals[subject]++;
            if (refusals[subject] >= REFUSALS_THAT_LOCK) {
                subjectLocks[subject] = true;
            }
        }

        private boolean release(int subject) {
            boolean was = subjectLocks[subject];
            subjectLocks[subject] = false;
            refusals[subject] = 0;
            return was;
        }

        private void placeSubject(int subject, int level, int group) {
            subjectLevels[subject] = level;
            subjectGroups[subject] = group;
        }

        private void placeObject(int object, int level, int owner) {
            objectLevels[object] = level;
            objectOwners[object] = owner;
        }

        private static int rightAt(int party, int object, int right) {
            return (party * OBJECTS + object) * RIGHTS + right;
        }

        private boolean hasBeenGiven(int party, int object, int right) {
            return rights[rightAt(party, object, right)];
        }

        private void setRight(int party, int object, int right, boolean now) {
            rights[rightAt(party, object, right)] = now;
        }

        private int ofSubject(int subject, int what) {
            switch (what) {
                case 0: return subjectLevels[subject];
                case 1: return subjectGroups[subject];
                case 2: return subjectLocks[subject] ? 1 : 0;
                case 3: return refusals[subject];
                default: return BAD;
            }
        }

        private int ofObject(int object, int what) {
            switch (what) {
                case 0: return objectLevels[object];
                case 1: return objectOwners[object];
                default: return BAD;
            }
        }
    }

    /** A row of hashes, each as eight words, the highest byte of a word first. */
    private static final class Hashes {
        private final int[] words;

        private Hashes(int length) {
            words = new int[length * HASH_WORDS];
        }

        private int byteAt(int h, int k) {
            return words[h * HASH_WORDS + (k >> 2)] >>> 24 - 8 * (k & 3) & 255;
        }

        private int spoilByte(int h, int k, int mask) {
            int was = byteAt(h, k);
            words[h * HASH_WORDS + (k >> 2)] ^= mask << 24 - 8 * (k & 3);
            return was;
        }

        private void copyFrom(int h, Hashes other, int g) {
            for (int w = 0; w < HASH_WORDS; w++) {
                words[h * HASH_WORDS + w] = other.words[g * HASH_WORDS + w];
            }
        }

        private boolean isSame(int h, Hashes other, int g) {
            for (int w = 0; w < HASH_WORDS; w++) {
                if (words[h * HASH_WORDS + w] != other.words[g * HASH_WORDS + w]) {
                    return false;
                }
            }
            return true;
        }
    }

    /** SHA-256 of up to 119 bytes: the longest row that the document hashes has 65. */
    private static final class Hasher {
        private static final int BLOCK_BYTES = 64, BLOCK_WORDS = 16, MOST_BLOCKS = 2, ROUNDS = 64;
        private static final int TAIL_BYTES = 9, LENGTH_BYTES = 4;

        private final int[] message = new int[MOST_BLOCKS * BLOCK_WORDS];
        private final int[] schedule = new int[ROUNDS];
        private final int[] state = new int[HASH_WORDS];
        private int length = 0;

        private void begin() {
            length = 0;
        }

        /** Four bytes shift a word's older ones out, so that no row is cleared between two hashes. */
        private void add(int value) {
            int word = length >> 2;
            if (word < message.length) {
                message[word] = message[word] << 8 | value & 255;
                length++;
            }
        }

        private void addHash(Hashes row, int h) {
            for (int k = 0; k < HASH_BYTES; k++) {
                add(row.byteAt(h, k));
            }
        }

        private void pairInto(Hashes left, int l, Hashes right, int r, Hashes to, int t) {
            begin();
            add(PAIR_MARK);
            addHash(left, l);
            addHash(right, r);
            finish(to, t);
        }

        private void finish(Hashes to, int t) {
            int bits = length * 8;
            int blocks = length + TAIL_BYTES <= BLOCK_BYTES ? 1 : MOST_BLOCKS;
            add(128);
            for (int i = length; i < blocks * BLOCK_BYTES - LENGTH_BYTES; i++) {
                add(0);
            }
            message[blocks * BLOCK_WORDS - 1] = bits;
            for (int w = 0; w < HASH_WORDS; w++) {
                state[w] = HASH_START[w];
            }
            for (int block = 0; block < blocks; block++) {
                spread(block);
                mix();
            }
            for (int w = 0; w < HASH_WORDS; w++) {
                to.words[t * HASH_WORDS + w] = state[w];
            }
        }

        private void spread(int block) {
            for (int t = 0; t < BLOCK_WORDS; t++) {
                schedule[t] = message[block * BLOCK_WORDS + t];
            }
            for (int t = BLOCK_WORDS; t < ROUNDS; t++) {
                int x = schedule[t - 15];
                int y = schedule[t - 2];
                int low = (x >>> 7 | x << 25) ^ (x >>> 18 | x << 14) ^ x >>> 3;
                int high = (y >>> 17 | y << 15) ^ (y >>> 19 | y << 13) ^ y >>> 10;
                schedule[t] = schedule[t - 16] + low + schedule[t - 7] + high;
            }
        }

        private void mix() {
            int a = state[0], b = state[1], c = state[2], d = state[3];
            int e = state[4], f = state[5], g = state[6], h = state[7];
            for (int t = 0; t < ROUNDS; t++) {
                int turned = (e >>> 6 | e << 26) ^ (e >>> 11 | e << 21) ^ (e >>> 25 | e << 7);
                int one = h + turned + (e & f ^ ~e & g) + HASH_ROUND[t] + schedule[t];
                int other = (a >>> 2 | a << 30) ^ (a >>> 13 | a << 19) ^ (a >>> 22 | a << 10);
                int two = other + (a & b ^ a & c ^ b & c);
                h = g;
                g = f;
                f = e;
                e = d + one;
                d = c;
                c = b;
                b = a;
                a = one + two;
            }
            state[0] += a;
            state[1] += b;
            state[2] += c;
            state[3] += d;
            state[4] += e;
            state[5] += f;
            state[6] += g;
            state[7] += h;
        }
    }

    /**
     * The tree's full subtrees of 1, 2, 4 .. 64 entries, each hashed once, when its last entry comes:
     * the root of any run that the document splits off is made of at most six of them.
     */
    private static final class Tree {
        private final Hasher hasher;
        private final Hashes nodes = new Hashes(NODES);

        private Tree(Hasher hasher) {
            this.hasher = hasher;
        }

        /** The row has the 64 nodes of level 0, then the 32 of level 1, and so on. */
        private static int nodeAt(int level, int start) {
            return NODES + 1 - (NODES + 1 >> level) + (start >> level);
        }

        private void addLeaf(int[] entries, int i) {
            hasher.begin();
            hasher.add(LEAF_MARK);
            for (int k = 0; k < ENTRY_BYTES; k++) {
                hasher.add(entries[i * ENTRY_BYTES + k]);
            }
            hasher.finish(nodes, nodeAt(0, i));
            int end = i + 1;
            for (int level = 1; level <= TOP_LEVEL && (end >> level) << level == end; level++) {
                int half = 1 << level - 1;
                int left = nodeAt(level - 1, end - 2 * half);
                int right = nodeAt(level - 1, end - half);
                hasher.pairInto(nodes, left, nodes, right, nodes, nodeAt(level, end - 2 * half));
            }
        }

        /** The root of the entries from one on, up to the one ahead of till; the smallest subtrees stand last. */
        private void rootOf(int from, int till, Hashes to, int t) {
            int length = till - from;
            if (length <= 0) {
                hasher.begin();
                hasher.finish(to, t);
                return;
            }
            int start = till;
            for (int level = 0; level <= TOP_LEVEL; level++) {
                int width = 1 << level;
                if ((length & width) == 0) {
                    continue;
                }
                boolean isLast = start == till;
                start -= width;
                if (isLast) {
                    to.copyFrom(t, nodes, nodeAt(level, start));
                } else {
                    hasher.pairInto(nodes, nodeAt(level, start), to, t, to, t);
                }
            }
        }
    }

    /** The entries and their chain; behind the last entry there is room to draft the next one. */
    private static final class Log {
        private final Hasher hasher;
        private final Tree tree;
        private final int[] entries = new int[MOST_ENTRIES * ENTRY_BYTES];
        private final Hashes links = new Hashes(MOST_ENTRIES + 1);
        private int size = 0;

        private Log(Hasher hasher, Tree tree) {
            this.hasher = hasher;
            this.tree = tree;
        }

        private int entryByte(int i, int k) {
            return entries[i * ENTRY_BYTES + k];
        }

        private int linkByte(int i, int k) {
            return links.byteAt(i, k);
        }

        private int frameByte(int i, int k) {
            if (k == 0) {
                return FRAME_MARK;
            }
            return k <= ENTRY_BYTES ? entryByte(i, k - 1) : linkByte(i + 1, k - 1 - ENTRY_BYTES);
        }

        private void draftByte(int k, int value) {
            if (size < MOST_ENTRIES) {
                entries[size * ENTRY_BYTES + k] = value;
            }
        }

        private void draftHead(int kind, int a, int b, int c, int cause) {
            draftByte(0, size >> 8);
            draftByte(1, size & 255);
            draftByte(2, kind);
            draftByte(3, a);
            draftByte(4, b);
            draftByte(5, c);
            draftByte(6, cause);
            draftByte(7, ENTRY_MARK);
        }

        private void draftTime(int time) {
            for (int k = 0; k < 4; k++) {
                draftByte(8 + k, time >>> 24 - 8 * k & 255);
            }
        }

        private void linkDraft() {
            if (size >= MOST_ENTRIES) {
                return;
            }
            hasher.begin();
            hasher.addHash(links, size);
            for (int k = 0; k < ENTRY_BYTES; k++) {
                hasher.add(entryByte(size, k));
            }
            hasher.finish(links, size + 1);
        }

        private void accept() {
            if (size < MOST_ENTRIES) {
                tree.addLeaf(entries, size);
                size++;
            }
        }
    }

    /** The row of hashes of a path or of steps, and the runs of entries whose roots they are. */
    private static final class Proof {
        private final Tree tree;
        private final Hashes row = new Hashes(MOST_PROOF);
        private final int[] starts = new int[MOST_PROOF];
        private final int[] ends = new int[MOST_PROOF];
        private int runs = 0;
        private int size = 0;

        private Proof(Tree tree) {
            this.tree = tree;
        }

        private int becomePath(int i, int n) {
            int start = 0;
            int end = n;
            runs = 0;
            for (int depth = 0; depth < MOST_PROOF && end - start > 1; depth++) {
                int middle = start + splitOf(end - start);
                if (i < middle) {
                    addRun(middle, end);
                    end = middle;
                } else {
                    addRun(start, middle);
                    start = middle;
                }
            }
            return fillFromRuns();
        }

        private int becomeSteps(int m, int n) {
            int start = 0;
            int end = n;
            runs = 0;
            for (int depth = 0; depth < MOST_PROOF && m != end; depth++) {
                int middle = start + splitOf(end - start);
                if (m <= middle) {
                    addRun(middle, end);
                    end = middle;
                } else {
                    addRun(start, middle);
                    start = middle;
                }
            }
            // Going right even once, the run in the end is no longer the whole first log.
            if (start > 0) {
                addRun(start, end);
            }
            return fillFromRuns();
        }

        /** The greatest power of two below a length of two or more. */
        private static int splitOf(int length) {
            int split = 1;
            for (int level = 0; level < TOP_LEVEL && 2 * split < length; level++) {
                split = 2 * split;
            }
            return split;
        }

        private void addRun(int start, int end) {
            if (runs < MOST_PROOF) {
                starts[runs] = start;
                ends[runs] = end;
                runs++;
            }
        }

        /** The runs were found from the top down; the document tells the hashes from the bottom up. */
        private int fillFromRuns() {
            for (int h = 0; h < runs; h++) {
                int run = runs - 1 - h;
                tree.rootOf(starts[run], ends[run], row, h);
            }
            size = runs;
            return size;
        }
    }

    /** Judges the proof against kept roots, as a reader would who has no log of his own. */
    private static final class Judge {
        private static final int OLD = 0, NEW = 1;

        private final Hasher hasher;
        private final Proof proof;
        private final Hashes keptRoots;
        private final Hashes made = new Hashes(2);
        private int f = 0;
        private int s = 0;

        private Judge(Hasher hasher, Proof proof, Hashes keptRoots) {
            this.hasher = hasher;
            this.proof = proof;
            this.keptRoots = keptRoots;
        }

        private boolean pathIsRight(int i, int n, Hashes leaf, int root) {
            if (i < 0 || i >= n) {
                return false;
            }
            f = i;
            s = n - 1;
            made.copyFrom(NEW, leaf, 0);
            for (int h = 0; h < proof.size; h++) {
                if (s == 0) {
                    return false;
                }
                if (comesFromLeft()) {
                    putLeft(h, NEW);
                    skipLevels();
                } else {
                    putRight(h, NEW);
                }
                halve();
            }
            return s == 0 && made.isSame(NEW, keptRoots, root);
        }

        private boolean stepsAreRight(int m, int n, int oldRoot, int newRoot) {
            if (m < 1 || m > n) {
                return false;
            }
            if (m == n) {
                return proof.size == 0 && keptRoots.isSame(oldRoot, keptRoots, newRoot);
            }
            boolean rootIsAhead = (m & m - 1) == 0;
            if (!rootIsAhead && proof.size == 0) {
                return false;
            }
            made.copyFrom(OLD, rootIsAhead ? keptRoots : proof.row, rootIsAhead ? oldRoot : 0);
            made.copyFrom(NEW, made, OLD);
            startSteps(m, n);
            for (int h = rootIsAhead ? 0 : 1; h < proof.size; h++) {
                if (s == 0) {
                    return false;
                }
                if (comesFromLeft()) {
                    putLeft(h, OLD);
                    putLeft(h, NEW);
                    skipLevels();
                } else {
                    putRight(h, NEW);
                }
                halve();
            }
            return s == 0 && made.isSame(OLD, keptRoots, oldRoot) && made.isSame(NEW, keptRoots, newRoot);
        }

        private void startSteps(int m, int n) {
            f = m - 1;
            s = n - 1;
            for (int level = 0; level < TOP_LEVEL && (f & 1) == 1; level++) {
                halve();
            }
        }

        private boolean comesFromLeft() {
            return (f & 1) == 1 || f == s;
        }

        private void putLeft(int h, int which) {
            hasher.pairInto(proof.row, h, made, which, made, which);
        }

        private void putRight(int h, int which) {
            hasher.pairInto(made, which, proof.row, h, made, which);
        }

        private void skipLevels() {
            for (int level = 0; level < TOP_LEVEL && f != 0 && (f & 1) == 0; level++) {
                halve();
            }
        }

        private void halve() {
            f = f >> 1;
            s = s >> 1;
        }
    }

    /** The bytes of the frames: how many were written, and how many of them are safe. */
    private static final class Disk {
        private final int[] bytes = new int[DISK_BYTES];
        private int written = 0;
        private int safe = 0;

        private void writeFrame(Log log, int i) {
            for (int k = 0; k < FRAME_BYTES; k++) {
                bytes[i * FRAME_BYTES + k] = log.frameByte(i, k);
            }
            written = (i + 1) * FRAME_BYTES;
        }

        private boolean holdsFrame(Log log, int i) {
            for (int k = 0; k < FRAME_BYTES; k++) {
                if (bytes[i * FRAME_BYTES + k] != log.frameByte(i, k)) {
                    return false;
                }
            }
            return true;
        }

        /** Bytes that were never written are not safe either, though they may have been spoilt. */
        private void losePower(int staying) {
            clearFrom(safe + staying);
            written = Math.min(written, safe + staying);
        }

        private void settle(int frames) {
            written = frames * FRAME_BYTES;
            safe = written;
            clearFrom(written);
        }

        private void clearFrom(int start) {
            for (int i = start; i < DISK_BYTES; i++) {
                bytes[i] = 0;
            }
        }
    }
}
