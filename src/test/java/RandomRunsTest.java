import java.util.Random;

/** Seeded runs of up to 512 calls on a new object, each answer compared with the model's. */
public final class RandomRunsTest {
    private static final int MOST_CALLS = 512, MOST_OF_A_TURN = 7;
    private static final int[] ODD = {-1, Integer.MIN_VALUE, Integer.MAX_VALUE, 12, 15, 16, 19, 20, 32, 60, 61, 1019,
        1020, 1021, 255, 256, 65536, -2147483000};

    private final Random random;
    private final AuditVault vault = new AuditVault();
    private final Model model = new Model();
    private final int oddOneIn;
    private final boolean isRestless;

    private RandomRunsTest(long seed) {
        random = new Random(seed);
        oddOneIn = seed % 3 == 0 ? 12 : 200;
        isRestless = seed % 2 == 0;
    }

    /** A number below a bound, or now and then one that no call takes. */
    private int some(int bound) {
        return random.nextInt(oddOneIn) == 0 ? ODD[random.nextInt(ODD.length)] : random.nextInt(Math.max(1, bound));
    }

    private int party() {
        return random.nextBoolean() ? some(12) : 16 + some(4);
    }

    private int entries() {
        return model.log.size();
    }

    private void monitorCall(String at) {
        int a = some(4);
        int o = some(4);
        int r = some(4);
        int p = random.nextBoolean() ? a : 16 + some(4);
        switch (random.nextInt(11)) {
            case 0 -> Check.due(at + "clock", vault.clock(a * 250000), model.clock(a * 250000));
            case 1 -> Check.due(at + "give " + p + " " + o + " " + r, vault.give(p, o, r), model.give(p, o, r));
            case 2 -> Check.due(at + "take " + p + " " + o + " " + r, vault.take(p, o, r), model.take(p, o, r));
            case 3 -> {
                int level = some(3);
                Check.due(at + "subject", vault.subject(a, level, r), model.subject(a, level, r));
            }
            case 4 -> {
                int level = some(3);
                Check.due(at + "object", vault.object(o, level, a), model.object(o, level, a));
            }
            case 5 -> Check.due(at + "unlock", vault.unlock(a), model.unlock(a));
            case 6 -> Check.due(at + "given", vault.given(p, o, r), model.given(p, o, r));
            case 7 -> {
                int wide = party();
                int object = some(16);
                Check.due(at + "give", vault.give(wide, object, r), model.give(wide, object, r));
            }
            default -> Check.due(at + "request " + a + " " + o + " " + r, vault.request(a, o, r), model.request(a, o, r));
        }
    }

    private void lookCall(String at) {
        int what = some(9);
        int s = some(12);
        int o = some(16);
        int k = some(32);
        int i = some(entries() + 1);
        switch (random.nextInt(8)) {
            case 0 -> Check.due(at + "subjectAt", vault.subjectAt(s, what), model.subjectAt(s, what));
            case 1 -> Check.due(at + "objectAt", vault.objectAt(o, what), model.objectAt(o, what));
            case 2 -> Check.due(at + "entry", vault.entry(i, k / 2), model.entry(i, k / 2));
            case 3 -> Check.due(at + "chain", vault.chain(i, k), model.chain(i, k));
            case 4 -> Check.due(at + "root", vault.root(i, k), model.root(i, k));
            case 5 -> Check.due(at + "count", vault.count(what), model.count(what));
            case 6 -> {
                long a = random.nextLong();
                long b = random.nextLong();
                int n = some(18);
                Check.due(at + "hash", vault.hash(a, b, n, k), model.hash(a, b, n, k));
            }
            default -> {
                int place = some(1020);
                Check.due(at + "disk", vault.disk(place), model.disk(place));
            }
        }
    }

    private void proofCall(String at) {
        int n = some(entries() + 1);
        int m = some(n + 1);
        int s = some(4);
        int t = some(4);
        int h = some(model.proof.size());
        int k = some(32);
        int mask = 1 + some(255);
        switch (random.nextInt(11)) {
            case 0 -> Check.due(at + "path " + m + " " + n, vault.path(m, n), model.path(m, n));
            case 1 -> Check.due(at + "steps " + m + " " + n, vault.steps(m, n), model.steps(m, n));
            case 2 -> Check.due(at + "proof", vault.proof(h, k), model.proof(h, k));
            case 3 -> Check.due(at + "spoilProof", vault.spoilProof(h, k, mask), model.spoilProof(h, k, mask));
            case 4 -> Check.due(at + "cutProof", vault.cutProof(h), model.cutProof(h));
            case 5 -> Check.due(at + "keep", vault.keep(s, n), model.keep(s, n));
            case 6 -> Check.due(at + "kept", vault.kept(s, k), model.kept(s, k));
            case 7 -> Check.due(at + "spoilKept", vault.spoilKept(s, k, mask), model.spoilKept(s, k, mask));
            case 8 -> Check.due(at + "judgeSteps", vault.judgeSteps(m, n, s, t), model.judgeSteps(m, n, s, t));
            case 9 -> judgeGoodPath(at, m, n, s);
            default -> judgeGoodSteps(at, m, n, s, t);
        }
    }

    private void judgeGoodPath(String at, int i, int n, int s) {
        Check.due(at + "keep", vault.keep(s, n), model.keep(s, n));
        Check.due(at + "path", vault.path(i, n), model.path(i, n));
        Check.due(at + "judgePath", vault.judgePath(i, n, i, s), model.judgePath(i, n, i, s));
        int other = some(61);
        Check.due(at + "judgePath", vault.judgePath(other, n, i, s), model.judgePath(other, n, i, s));
        Check.due(at + "judgePath", vault.judgePath(i, other, i, s), model.judgePath(i, other, i, s));
    }

    private void judgeGoodSteps(String at, int m, int n, int s, int t) {
        Check.due(at + "keep", vault.keep(s, m), model.keep(s, m));
        Check.due(at + "keep", vault.keep(t, n), model.keep(t, n));
        Check.due(at + "steps", vault.steps(m, n), model.steps(m, n));
        Check.due(at + "judgeSteps", vault.judgeSteps(m, n, s, t), model.judgeSteps(m, n, s, t));
        int other = some(61);
        Check.due(at + "judgeSteps", vault.judgeSteps(other, n, s, t), model.judgeSteps(other, n, s, t));
        Check.due(at + "judgeSteps", vault.judgeSteps(m, other, s, t), model.judgeSteps(m, other, s, t));
    }

    private void diskCall(String at) {
        int n = some(random.nextBoolean() ? 100 : 1021);
        int i = some(random.nextBoolean() ? model.written : 1020);
        int mask = 1 + some(255);
        switch (random.nextInt(8)) {
            case 0, 1, 2 -> Check.due(at + "sync", vault.sync(), model.sync());
            case 3 -> Check.due(at + "cut " + n, vault.cut(n), model.cut(n));
            case 4, 5 -> Check.due(at + "open", vault.open(), model.open());
            case 6 -> Check.due(at + "spoil " + i + " " + mask, vault.spoil(i, mask), model.spoil(i, mask));
            default -> Check.due(at + "audit", vault.audit(), model.audit());
        }
    }

    /** In a quiet run the log gets full; in a restless one power is cut and bytes are spoilt over and over. */
    private void turn(String at) {
        int kind = random.nextInt(40);
        if (kind < 18) {
            monitorCall(at);
        } else if (kind < 24) {
            lookCall(at);
        } else if (kind < (isRestless || model.shut ? 29 : 39)) {
            proofCall(at);
        } else {
            diskCall(at);
        }
    }

    /** Each answer that is compared is one call; a turn makes seven at most. */
    private void run(long seed) {
        int before = Check.askedOnes();
        for (int turn = 0; Check.askedOnes() - before <= MOST_CALLS - MOST_OF_A_TURN; turn++) {
            String at = "seed " + seed + ", turn " + turn + ": ";
            turn(at);
            Check.due(at + "digest", vault.digest(), model.digest());
        }
    }

    public static void main(String[] args) {
        for (long seed = 0; seed < 300 && Check.wrongOnes() == 0; seed++) {
            new RandomRunsTest(seed).run(seed);
        }
        Check.end();
    }
}
