import java.security.MessageDigest;
import java.security.NoSuchAlgorithmException;
import java.util.ArrayList;
import java.util.Arrays;
import java.util.HashSet;
import java.util.List;
import java.util.Set;

/**
 * The document once more, word by word and without a thought of speed: recursive as it tells the tree,
 * with the library's SHA-256. It shares no code with the class under test.
 */
final class Model {
    static final int BAD = -2, SHUT = -3, FULL = -4, NOT = -5;

    final int[][] subjects = new int[12][4];
    final int[][] objects = new int[16][2];
    final Set<List<Integer>> given = new HashSet<>();
    List<byte[]> log = new ArrayList<>();
    List<byte[]> proof = new ArrayList<>();
    final byte[][] kept = new byte[4][32];
    final byte[] disk = new byte[1020];
    int written, safe, clock, allowed, denied;
    boolean shut;

    static byte[] hashOf(byte[]... parts) {
        try {
            MessageDigest sha = MessageDigest.getInstance("SHA-256");
            for (byte[] part : parts) {
                sha.update(part);
            }
            return sha.digest();
        } catch (NoSuchAlgorithmException e) {
            throw new IllegalStateException(e);
        }
    }

    static byte[] mark(int value) {
        return new byte[] {(byte) value};
    }

    static int greatestPowerBelow(int n) {
        int k = 1;
        while (k * 2 < n) {
            k *= 2;
        }
        return k;
    }

    static byte[] rootOf(List<byte[]> es) {
        if (es.isEmpty()) {
            return hashOf();
        }
        if (es.size() == 1) {
            return hashOf(mark(0), es.get(0));
        }
        int k = greatestPowerBelow(es.size());
        return hashOf(mark(1), rootOf(es.subList(0, k)), rootOf(es.subList(k, es.size())));
    }

    static List<byte[]> pathOf(int i, List<byte[]> es) {
        if (es.size() == 1) {
            return new ArrayList<>();
        }
        int k = greatestPowerBelow(es.size());
        List<byte[]> first = es.subList(0, k);
        List<byte[]> others = es.subList(k, es.size());
        List<byte[]> path = i < k ? pathOf(i, first) : pathOf(i - k, others);
        path.add(rootOf(i < k ? others : first));
        return path;
    }

    static List<byte[]> stepsOf(int m, List<byte[]> es, boolean whole) {
        List<byte[]> steps = new ArrayList<>();
        if (m == es.size()) {
            if (!whole) {
                steps.add(rootOf(es));
            }
            return steps;
        }
        int k = greatestPowerBelow(es.size());
        List<byte[]> first = es.subList(0, k);
        List<byte[]> others = es.subList(k, es.size());
        if (m <= k) {
            steps.addAll(stepsOf(m, first, whole));
            steps.add(rootOf(others));
        } else {
            steps.addAll(stepsOf(m - k, others, false));
            steps.add(rootOf(first));
        }
        return steps;
    }

    static byte[] chainOf(List<byte[]> es, int i) {
        byte[] c = new byte[32];
        for (int j = 0; j < i; j++) {
            c = hashOf(c, es.get(j));
        }
        return c;
    }

    static boolean pathRight(List<byte[]> proof, int i, int n, byte[] entry, byte[] root) {
        if (i < 0 || i >= n) {
            return false;
        }
        int f = i;
        int s = n - 1;
        byte[] r = hashOf(mark(0), entry);
        for (byte[] p : proof) {
            if (s == 0) {
                return false;
            }
            if (f % 2 == 1 || f == s) {
                r = hashOf(mark(1), p, r);
                while (f % 2 == 0 && f != 0) {
                    f /= 2;
                    s /= 2;
                }
            } else {
                r = hashOf(mark(1), r, p);
            }
            f /= 2;
            s /= 2;
        }
        return s == 0 && Arrays.equals(r, root);
    }

    static boolean stepsRight(List<byte[]> proof, int m, int n, byte[] one, byte[] two) {
        if (m < 1 || m > n) {
            return false;
        }
        if (m == n) {
            return proof.isEmpty() && Arrays.equals(one, two);
        }
        List<byte[]> row = new ArrayList<>(proof);
        if (Integer.bitCount(m) == 1) {
            row.add(0, one);
        }
        if (row.isEmpty()) {
            return false;
        }
        int f = m - 1;
        int s = n - 1;
        while (f % 2 == 1) {
            f /= 2;
            s /= 2;
        }
        byte[] x = row.get(0);
        byte[] y = row.get(0);
        for (byte[] c : row.subList(1, row.size())) {
            if (s == 0) {
                return false;
            }
            if (f % 2 == 1 || f == s) {
                x = hashOf(mark(1), c, x);
                y = hashOf(mark(1), c, y);
                while (f % 2 == 0 && f != 0) {
                    f /= 2;
                    s /= 2;
                }
            } else {
                y = hashOf(mark(1), y, c);
            }
            f /= 2;
            s /= 2;
        }
        return Arrays.equals(x, one) && Arrays.equals(y, two) && s == 0;
    }

    static byte[] frameOf(List<byte[]> es, int i) {
        byte[] frame = new byte[17];
        frame[0] = 90;
        System.arraycopy(es.get(i), 0, frame, 1, 12);
        System.arraycopy(chainOf(es, i + 1), 0, frame, 13, 4);
        return frame;
    }

    static boolean in(int x, int low, int high) {
        return low <= x && x <= high;
    }

    static boolean party(int x) {
        return in(x, 0, 11) || in(x, 16, 19);
    }

    int stop() {
        return shut ? SHUT : log.size() == 60 ? FULL : 0;
    }

    void act(int kind, int a, int b, int c, int cause) {
        int n = log.size();
        log.add(new byte[] {(byte) (n >> 8), (byte) n, (byte) kind, (byte) a, (byte) b, (byte) c, (byte) cause,
            (byte) 165, (byte) (clock >> 24), (byte) (clock >> 16), (byte) (clock >> 8), (byte) clock});
        System.arraycopy(frameOf(log, n), 0, disk, 17 * n, 17);
        written = 17 * (n + 1);
    }

    int clock(int more) {
        if (!in(more, 0, 1000000) || (long) clock + more > 2000000000L) {
            return BAD;
        }
        return clock += more;
    }

    int request(int s, int o, int r) {
        if (!in(s, 0, 11) || !in(o, 0, 15) || !in(r, 0, 3)) {
            return BAD;
        }
        if (stop() != 0) {
            return stop();
        }
        boolean has = objects[o][1] == s || given.contains(List.of(s, o, r))
            || given.contains(List.of(16 + subjects[s][1], o, r));
        int cause = subjects[s][2] == 1 ? 1
            : r <= 1 && subjects[s][0] < objects[o][0] ? 2
            : (r == 1 || r == 2) && subjects[s][0] > objects[o][0] ? 3
            : !has ? 4 : 0;
        if (cause == 0) {
            allowed++;
            subjects[s][3] = 0;
        } else {
            denied++;
            subjects[s][3]++;
            if (subjects[s][3] == 3) {
                subjects[s][2] = 1;
            }
        }
        act(0, s, o, r, cause);
        return cause;
    }

    int give(int to, int o, int r) {
        if (!party(to) || !in(o, 0, 15) || !in(r, 0, 3)) {
            return BAD;
        }
        if (stop() != 0) {
            return stop();
        }
        act(1, to, o, r, 0);
        return given.add(List.of(to, o, r)) ? 1 : 0;
    }

    int take(int from, int o, int r) {
        if (!party(from) || !in(o, 0, 15) || !in(r, 0, 3)) {
            return BAD;
        }
        if (stop() != 0) {
            return stop();
        }
        act(2, from, o, r, 0);
        return given.remove(List.of(from, o, r)) ? 1 : 0;
    }

    int subject(int s, int level, int group) {
        if (!in(s, 0, 11) || !in(level, 0, 7) || !in(group, 0, 3)) {
            return BAD;
        }
        if (stop() != 0) {
            return stop();
        }
        subjects[s][0] = level;
        subjects[s][1] = group;
        act(3, s, level, group, 0);
        return 1;
    }

    int object(int o, int level, int owner) {
        if (!in(o, 0, 15) || !in(level, 0, 7) || !in(owner, 0, 11)) {
            return BAD;
        }
        if (stop() != 0) {
            return stop();
        }
        objects[o][0] = level;
        objects[o][1] = owner;
        act(4, o, level, owner, 0);
        return 1;
    }

    int unlock(int s) {
        if (!in(s, 0, 11)) {
            return BAD;
        }
        if (stop() != 0) {
            return stop();
        }
        int was = subjects[s][2];
        subjects[s][2] = 0;
        subjects[s][3] = 0;
        act(5, s, 0, 0, 0);
        return was;
    }

    int subjectAt(int s, int what) {
        return in(s, 0, 11) && in(what, 0, 3) ? subjects[s][what] : BAD;
    }

    int objectAt(int o, int what) {
        return in(o, 0, 15) && in(what, 0, 1) ? objects[o][what] : BAD;
    }

    int given(int to, int o, int r) {
        if (!party(to) || !in(o, 0, 15) || !in(r, 0, 3)) {
            return BAD;
        }
        return given.contains(List.of(to, o, r)) ? 1 : 0;
    }

    int entry(int i, int k) {
        return in(i, 0, log.size() - 1) && in(k, 0, 11) ? log.get(i)[k] & 255 : BAD;
    }

    int chain(int i, int k) {
        return in(i, 0, log.size()) && in(k, 0, 31) ? chainOf(log, i)[k] & 255 : BAD;
    }

    int root(int n, int k) {
        return in(n, 0, log.size()) && in(k, 0, 31) ? rootOf(log.subList(0, n))[k] & 255 : BAD;
    }

    int path(int i, int n) {
        if (!in(n, 1, log.size()) || !in(i, 0, n - 1)) {
            return BAD;
        }
        proof = pathOf(i, log.subList(0, n));
        return proof.size();
    }

    int steps(int m, int n) {
        if (!in(n, 1, log.size()) || !in(m, 1, n)) {
            return BAD;
        }
        proof = stepsOf(m, log.subList(0, n), true);
        return proof.size();
    }

    int proof(int h, int k) {
        return in(h, 0, proof.size() - 1) && in(k, 0, 31) ? proof.get(h)[k] & 255 : BAD;
    }

    int spoilProof(int h, int k, int mask) {
        if (!in(h, 0, proof.size() - 1) || !in(k, 0, 31) || !in(mask, 1, 255)) {
            return BAD;
        }
        int was = proof.get(h)[k] & 255;
        proof.get(h)[k] ^= (byte) mask;
        return was;
    }

    int cutProof(int n) {
        if (!in(n, 0, proof.size())) {
            return BAD;
        }
        int gone = proof.size() - n;
        proof = new ArrayList<>(proof.subList(0, n));
        return gone;
    }

    int keep(int s, int n) {
        if (!in(s, 0, 3) || !in(n, 0, log.size())) {
            return BAD;
        }
        kept[s] = rootOf(log.subList(0, n));
        return 1;
    }

    int kept(int s, int k) {
        return in(s, 0, 3) && in(k, 0, 31) ? kept[s][k] & 255 : BAD;
    }

    int spoilKept(int s, int k, int mask) {
        if (!in(s, 0, 3) || !in(k, 0, 31) || !in(mask, 1, 255)) {
            return BAD;
        }
        int was = kept[s][k] & 255;
        kept[s][k] ^= (byte) mask;
        return was;
    }

    int judgePath(int i, int n, int e, int s) {
        if (!in(i, 0, 60) || !in(n, 0, 60) || !in(e, 0, log.size() - 1) || !in(s, 0, 3)) {
            return BAD;
        }
        return pathRight(proof, i, n, log.get(e), kept[s]) ? 1 : 0;
    }

    int judgeSteps(int m, int n, int s, int t) {
        if (!in(m, 0, 60) || !in(n, 0, 60) || !in(s, 0, 3) || !in(t, 0, 3)) {
            return BAD;
        }
        return stepsRight(proof, m, n, kept[s], kept[t]) ? 1 : 0;
    }

    int sync() {
        return shut ? SHUT : (safe = written);
    }

    int cut(int n) {
        if (!in(n, 0, 1020)) {
            return BAD;
        }
        if (shut) {
            return SHUT;
        }
        for (int i = 0; i < 1020; i++) {
            boolean isSafe = i < safe;
            boolean isOneOfTheFirst = i - safe < n;
            if (!isSafe && !isOneOfTheFirst) {
                disk[i] = 0;
            }
        }
        written = safe + Math.min(n, written - safe);
        log = new ArrayList<>();
        shut = true;
        return written;
    }

    int open() {
        if (!shut) {
            return NOT;
        }
        List<byte[]> found = new ArrayList<>();
        for (int i = 0; i < 60; i++) {
            byte[] frame = Arrays.copyOfRange(disk, 17 * i, 17 * i + 17);
            found.add(Arrays.copyOfRange(frame, 1, 13));
            int number = (frame[1] & 255) * 256 + (frame[2] & 255);
            if (number != i || !Arrays.equals(frame, frameOf(found, i))) {
                found.remove(i);
                break;
            }
        }
        log = found;
        written = 17 * log.size();
        safe = written;
        Arrays.fill(disk, written, 1020, (byte) 0);
        shut = false;
        return log.size();
    }

    int disk(int i) {
        return in(i, 0, 1019) ? disk[i] & 255 : BAD;
    }

    int spoil(int i, int mask) {
        if (!in(i, 0, 1019) || !in(mask, 1, 255)) {
            return BAD;
        }
        int was = disk[i] & 255;
        disk[i] ^= (byte) mask;
        return was;
    }

    int audit() {
        if (shut) {
            return SHUT;
        }
        for (int i = 0; i < log.size(); i++) {
            if (!Arrays.equals(Arrays.copyOfRange(disk, 17 * i, 17 * i + 17), frameOf(log, i))) {
                return i;
            }
        }
        return -1;
    }

    int hash(long a, long b, int n, int k) {
        if (!in(n, 0, 16) || !in(k, 0, 31)) {
            return BAD;
        }
        byte[] both = java.nio.ByteBuffer.allocate(16).putLong(a).putLong(b).array();
        return hashOf(Arrays.copyOf(both, n))[k] & 255;
    }

    int count(int what) {
        int[] all = {log.size(), written, safe, shut ? 1 : 0, clock, proof.size(), allowed, denied};
        return in(what, 0, 7) ? all[what] : BAD;
    }

    long digest() {
        long h = 17;
        for (int[] subject : subjects) {
            for (int value : subject) {
                h = 31 * h + value;
            }
        }
        for (int[] object : objects) {
            for (int value : object) {
                h = 31 * h + value;
            }
        }
        for (byte value : disk) {
            h = 31 * h + (value & 255);
        }
        for (int what = 0; what < 6; what++) {
            h = 31 * h + count(what);
        }
        return h;
    }
}
