import java.util.function.IntSupplier;
import java.util.function.IntUnaryOperator;

/** Boundary cases: tests that each have a promise's number, a name and vaults of their own. */
abstract class Cases {
    protected static final int NONE = -1, BAD = -2, SHUT = -3, FULL = -4, NOT = -5;
    protected static final int LOW = Integer.MIN_VALUE, HIGH = Integer.MAX_VALUE;
    private static final int[] TESTS_OF = new int[34];
    private static String running = "";

    protected static void test(int promise, String name, Runnable body) {
        running = "promise " + promise + ", " + name + ": ";
        TESTS_OF[promise]++;
        int askedBefore = Check.askedOnes();
        try {
            body.run();
        } catch (RuntimeException thrown) {
            holds("no call throws, but one threw " + thrown, false);
        }
        holds("the test asks something", Check.askedOnes() > askedBefore);
    }

    protected static void due(String call, long got, long want) {
        Check.due(running + call, got, want);
    }

    protected static void holds(String what, boolean truth) {
        Check.holds(running + what, truth);
    }

    /** A call that answers below 0 and changes nothing that can be seen. */
    protected static void refused(AuditVault x, String call, int want, IntSupplier asked) {
        Sight before = new Sight(x);
        due(call, asked.getAsInt(), want);
        String change = before.firstChange(new Sight(x));
        holds(call + " changes nothing, but " + change, change.isEmpty());
    }

    protected static void bad(AuditVault x, String call, IntSupplier asked) {
        refused(x, call, BAD, asked);
    }

    protected static void row(String name, int[] want, IntUnaryOperator got) {
        for (int k = 0; k < want.length; k++) {
            due(name + " " + k, got.applyAsInt(k), want[k]);
        }
    }

    protected static void bytes(String name, byte[] want, IntUnaryOperator got) {
        for (int k = 0; k < want.length; k++) {
            due(name + " " + k, got.applyAsInt(k), want[k] & 255);
        }
    }

    /** A vault with so many entries, each a request of subject 0 that is allowed. */
    protected static AuditVault withEntries(int n) {
        AuditVault x = new AuditVault();
        addEntries(x, n);
        return x;
    }

    protected static void addEntries(AuditVault x, int n) {
        for (int i = 0; i < n; i++) {
            due("an entry more", x.request(0, i % 16, i % 4), 0);
        }
    }

    /** Entries such as withEntries makes them, by the document's words. */
    protected static Model modelWithEntries(int n) {
        Model model = new Model();
        for (int i = 0; i < n; i++) {
            model.request(0, i % 16, i % 4);
        }
        return model;
    }

    protected static AuditVault shutWithEntries(int n) {
        AuditVault x = withEntries(n);
        x.cut(1020);
        return x;
    }

    /** Power is cut, with all bytes staying, and the log is opened. */
    protected static int reopen(AuditVault x) {
        x.cut(1020);
        return x.open();
    }

    /** Three requests that are not allowed, one behind the other: subject s is locked. */
    protected static AuditVault withLocked(int s) {
        AuditVault x = new AuditVault();
        for (int i = 0; i < 3; i++) {
            due("a request that lacks", x.request(s, 0, 3), 4);
        }
        return x;
    }

    /** Fails if a test failed, or if a promise of these has no test. */
    protected static void end(int firstPromise, int lastPromise) {
        running = "";
        int tests = 0;
        for (int promise = 1; promise < TESTS_OF.length; promise++) {
            tests += TESTS_OF[promise];
            boolean isDue = promise >= firstPromise && promise <= lastPromise;
            Check.holds("promise " + promise + " has a test", TESTS_OF[promise] > 0 || !isDue);
        }
        System.out.println(tests + " boundary cases");
        Check.end();
    }
}
