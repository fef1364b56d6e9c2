/** Every path and all steps of logs of up to 60 entries: made as the model makes them, judged right, then spoilt. */
public final class ProofsTest {
    private final AuditVault vault = new AuditVault();
    private final Model model = new Model();

    private ProofsTest() {
        for (int i = 0; i < 60; i++) {
            vault.clock(i * 1000);
            model.clock(i * 1000);
            vault.request(i % 3, i % 16, i % 4);
            model.request(i % 3, i % 16, i % 4);
        }
    }

    private void compareProof(String of) {
        for (int h = 0; h < model.proof.size(); h++) {
            for (int k = 0; k < 32; k++) {
                Check.due(of + ", hash " + h, vault.proof(h, k), model.proof.get(h)[k] & 255);
            }
        }
    }

    private void paths() {
        for (int n = 1; n <= 60; n++) {
            vault.keep(0, n);
            for (int i = 0; i < n; i++) {
                String of = "path " + i + " " + n;
                int size = vault.path(i, n);
                Check.due(of, size, model.path(i, n));
                compareProof(of);
                Check.due("judge " + of, vault.judgePath(i, n, i, 0), 1);
                Check.due("judge " + of + " of another", vault.judgePath(i, n, (i + 1) % 60, 0), 0);
                spoilPath(of, i, n, size);
            }
        }
    }

    private void spoilPath(String of, int i, int n, int size) {
        for (int h = 0; h < size; h++) {
            vault.spoilProof(h, i % 32, 1 + n);
            Check.due("judge spoilt " + of, vault.judgePath(i, n, i, 0), 0);
            vault.spoilProof(h, i % 32, 1 + n);
        }
        if (size > 0) {
            vault.cutProof(size - 1);
            Check.due("judge cut " + of, vault.judgePath(i, n, i, 0), 0);
        }
    }

    private void steps() {
        for (int n = 1; n <= 60; n++) {
            vault.keep(1, n);
            for (int m = 1; m <= n; m++) {
                vault.keep(0, m);
                String of = "steps " + m + " " + n;
                int size = vault.steps(m, n);
                Check.due(of, size, model.steps(m, n));
                compareProof(of);
                Check.due("judge " + of, vault.judgeSteps(m, n, 0, 1), 1);
                Check.due("judge turned " + of, vault.judgeSteps(m, n, 1, 0), m == n ? 1 : 0);
                spoilSteps(of, m, n, size);
            }
        }
    }

    private void spoilSteps(String of, int m, int n, int size) {
        for (int h = 0; h < size; h++) {
            vault.spoilProof(h, m % 32, 1 + n);
            Check.due("judge spoilt " + of, vault.judgeSteps(m, n, 0, 1), 0);
            vault.spoilProof(h, m % 32, 1 + n);
        }
        vault.spoilKept(0, n % 32, m);
        Check.due("judge for a spoilt root " + of, vault.judgeSteps(m, n, 0, 1), 0);
        if (size > 0) {
            vault.spoilKept(0, n % 32, m);
            vault.cutProof(size - 1);
            Check.due("judge cut " + of, vault.judgeSteps(m, n, 0, 1), 0);
        }
    }

    /** One proof judged for every pair of numbers, most of which it is not for. */
    private void everyNumber(int i, int n) {
        vault.keep(0, i);
        model.keep(0, i);
        vault.keep(1, n);
        model.keep(1, n);
        for (int f = 0; f <= 60; f++) {
            for (int s = 0; s <= 60; s++) {
                Check.due("judgePath " + f + " " + s, vault.judgePath(f, s, i, 1), model.judgePath(f, s, i, 1));
                Check.due("judgeSteps " + f + " " + s, vault.judgeSteps(f, s, 0, 1), model.judgeSteps(f, s, 0, 1));
            }
        }
    }

    public static void main(String[] args) {
        ProofsTest test = new ProofsTest();
        test.paths();
        test.steps();
        for (int n : new int[] {1, 2, 7, 8, 13, 32, 33, 59, 60}) {
            for (int i : new int[] {0, n / 2, n - 1}) {
                test.vault.path(i, n);
                test.model.path(i, n);
                test.everyNumber(i, n);
                test.vault.steps(Math.max(1, i), n);
                test.model.steps(Math.max(1, i), n);
                test.everyNumber(Math.max(1, i), n);
            }
        }
        Check.end();
    }
}
