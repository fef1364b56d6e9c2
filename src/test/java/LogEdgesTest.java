/** The boundary cases that the document names for the log and its proofs (promises 12 to 24, parts 3 and 4). */
public final class LogEdgesTest extends Cases {
    private LogEdgesTest() { }

    private static byte[] leafOf(Model model, int i) {
        return Model.hashOf(Model.mark(0), model.log.get(i));
    }

    private static byte[] pairOf(byte[] left, byte[] right) {
        return Model.hashOf(Model.mark(1), left, right);
    }

    private static byte[] rootOf(Model model, int from, int till) {
        return Model.rootOf(model.log.subList(from, till));
    }

    private static void proofIs(AuditVault x, byte[]... hashes) {
        due("hashes", x.count(5), hashes.length);
        for (int h = 0; h < hashes.length; h++) {
            int hash = h;
            bytes("hash " + h + ", byte", hashes[h], k -> x.proof(hash, k));
        }
        due("no hash more", x.proof(hashes.length, 0), BAD);
    }

    // ---- promise 12

    private static void atTime(int time, int... wantBytes) {
        test(12, "CLOCK " + time + " stands highest byte first", () -> {
            AuditVault x = new AuditVault();
            for (int left = time; left > 0; left -= Math.min(left, 1000000)) {
                x.clock(Math.min(left, 1000000));
            }
            x.unlock(3);
            row("byte of CLOCK", wantBytes, k -> x.entry(0, 8 + k));
        });
    }

    private static void entries() {
        test(12, "no entries", () -> {
            AuditVault x = new AuditVault();
            bad(x, "entry 0", () -> x.entry(0, 0));
        });
        test(12, "one entry: the first is the last", () -> {
            AuditVault x = withEntries(1);
            due("first byte", x.entry(0, 0), 0);
            due("mark", x.entry(0, 7), 165);
            due("last byte", x.entry(0, 11), 0);
            bad(x, "entry 1", () -> x.entry(1, 0));
            bad(x, "byte 12", () -> x.entry(0, 12));
            bad(x, "byte -1", () -> x.entry(0, -1));
            bad(x, "entry -1", () -> x.entry(-1, 0));
        });
        test(12, "60 entries, each with its number", () -> {
            AuditVault x = withEntries(60);
            for (int i = 0; i < 60; i++) {
                due("high byte of the number", x.entry(i, 0), 0);
                due("low byte of the number", x.entry(i, 1), i);
            }
            bad(x, "entry 60", () -> x.entry(60, 0));
        });
        test(12, "every kind", () -> {
            AuditVault x = new AuditVault();
            x.request(1, 2, 3);
            x.give(19, 15, 3);
            x.take(11, 14, 2);
            x.subject(10, 7, 3);
            x.object(15, 6, 11);
            x.unlock(9);
            int[][] want = {{0, 1, 2, 3, 4}, {1, 19, 15, 3, 0}, {2, 11, 14, 2, 0}, {3, 10, 7, 3, 0}, {4, 15, 6, 11, 0},
                {5, 9, 0, 0, 0}};
            for (int i = 0; i < want.length; i++) {
                int entry = i;
                row("entry " + i + ", kind, a, b, c, CAUSE", want[i], k -> x.entry(entry, 2 + k));
                due("mark", x.entry(i, 7), 165);
            }
        });
        atTime(0, 0, 0, 0, 0);
        atTime(255, 0, 0, 0, 255);
        atTime(256, 0, 0, 1, 0);
        atTime(65535, 0, 0, 255, 255);
        atTime(65536, 0, 1, 0, 0);
        atTime(16777215, 0, 255, 255, 255);
        atTime(16777216, 1, 0, 0, 0);
        atTime(2000000000, 119, 53, 148, 0);
        test(12, "the CLOCK of its own time", () -> {
            AuditVault x = withEntries(1);
            x.clock(300);
            x.request(0, 0, 0);
            x.clock(300);
            row("ahead", new int[] {0, 0, 0, 0}, k -> x.entry(0, 8 + k));
            row("behind", new int[] {0, 0, 1, 44}, k -> x.entry(1, 8 + k));
        });
        test(12, "a refused call is no entry", () -> {
            AuditVault x = withEntries(1);
            x.request(12, 0, 0);
            x.give(12, 0, 0);
            x.unlock(12);
            due("entries", x.count(0), 1);
            due("entry 1", x.entry(1, 0), BAD);
        });
        test(12, "none while shut, though its frame stays", () -> {
            AuditVault x = shutWithEntries(2);
            bad(x, "entry 0", () -> x.entry(0, 0));
            x.open();
            due("opened", x.entry(1, 1), 1);
        });
    }

    // ---- promises 13 and 14

    private static void chain() {
        test(13, "C 0 is 32 bytes 0", () -> {
            AuditVault x = new AuditVault();
            row("byte", new int[32], k -> x.chain(0, k));
            bad(x, "C 1 of no entries", () -> x.chain(1, 0));
        });
        test(13, "C 1 is HASH of 32 bytes 0 and ENTRY 0", () -> {
            AuditVault x = withEntries(1);
            byte[] entry = {0, 0, 0, 0, 0, 0, 0, (byte) 165, 0, 0, 0, 0};
            bytes("byte", Model.hashOf(new byte[32], entry), k -> x.chain(1, k));
            bad(x, "C 2", () -> x.chain(2, 0));
        });
        test(13, "C 60 is the last", () -> {
            AuditVault x = withEntries(60);
            bytes("byte", Model.chainOf(modelWithEntries(60).log, 60), k -> x.chain(60, k));
            bad(x, "C 61", () -> x.chain(61, 0));
        });
        test(13, "byte 31 is the last", () -> {
            AuditVault x = withEntries(1);
            bad(x, "byte 32", () -> x.chain(1, 32));
            bad(x, "byte -1", () -> x.chain(1, -1));
            bad(x, "C -1", () -> x.chain(-1, 0));
        });
        test(13, "while shut C 0 alone", () -> {
            AuditVault x = shutWithEntries(2);
            row("byte", new int[32], k -> x.chain(0, k));
            bad(x, "C 1", () -> x.chain(1, 0));
        });
    }

    private static void rootIs(int n, byte[] want) {
        AuditVault x = withEntries(60);
        bytes("root of " + n + ", byte", want, k -> x.root(n, k));
    }

    private static void roots() {
        Model model = modelWithEntries(60);
        test(14, "of none: HASH of no bytes", () -> {
            AuditVault x = new AuditVault();
            bytes("byte", Model.hashOf(), k -> x.root(0, k));
            bad(x, "root of 1", () -> x.root(1, 0));
        });
        test(14, "of none of a full log", () -> rootIs(0, Model.hashOf()));
        test(14, "of one: HASH of a byte 0 and the ENTRY", () -> rootIs(1, leafOf(model, 0)));
        test(14, "of two", () -> rootIs(2, pairOf(leafOf(model, 0), leafOf(model, 1))));
        test(14, "of three: two, then one", () -> rootIs(3, pairOf(rootOf(model, 0, 2), leafOf(model, 2))));
        test(14, "of four: k is two, a power of two below four", () ->
            rootIs(4, pairOf(rootOf(model, 0, 2), rootOf(model, 2, 4))));
        test(14, "of five: four, then one", () -> rootIs(5, pairOf(rootOf(model, 0, 4), leafOf(model, 4))));
        test(14, "of 32: 16, then 16", () -> rootIs(32, pairOf(rootOf(model, 0, 16), rootOf(model, 16, 32))));
        test(14, "of 33: 32, then one", () -> rootIs(33, pairOf(rootOf(model, 0, 32), leafOf(model, 32))));
        test(14, "of 60: 32, then 28", () -> rootIs(60, pairOf(rootOf(model, 0, 32), rootOf(model, 32, 60))));
        test(14, "of 61 is BAD", () -> {
            AuditVault x = withEntries(60);
            bad(x, "root", () -> x.root(61, 0));
            bad(x, "root of -1", () -> x.root(-1, 0));
        });
        test(14, "of more than there are is BAD", () -> {
            AuditVault x = withEntries(7);
            holds("of all", x.root(7, 0) >= 0);
            bad(x, "of one more", () -> x.root(8, 0));
        });
        test(14, "while shut of none alone", () -> {
            AuditVault x = shutWithEntries(2);
            bytes("byte", Model.hashOf(), k -> x.root(0, k));
            bad(x, "root of 1", () -> x.root(1, 0));
        });
        test(14, "of fewer entries, read again, and of others behind them", () -> {
            AuditVault x = withEntries(5);
            x.sync();
            addEntries(x, 6);
            x.cut(0);
            x.open();
            Model again = modelWithEntries(5);
            bytes("root of 5, byte", rootOf(again, 0, 5), k -> x.root(5, k));
            bad(x, "root of 6", () -> x.root(6, 0));
            for (int i = 0; i < 4; i++) {
                x.unlock(i);
                again.unlock(i);
            }
            bytes("root of 9, byte", rootOf(again, 0, 9), k -> x.root(9, k));
        });
    }

    // ---- promise 15

    private static void paths() {
        Model model = modelWithEntries(60);
        test(15, "no entries", () -> {
            AuditVault x = new AuditVault();
            bad(x, "path in 0", () -> x.path(0, 0));
            bad(x, "path in 1", () -> x.path(0, 1));
        });
        test(15, "of one: none", () -> {
            AuditVault x = withEntries(1);
            due("path", x.path(0, 1), 0);
            proofIs(x);
            bad(x, "entry 1", () -> x.path(1, 1));
        });
        test(15, "of one of many: none, and what was there is gone", () -> {
            AuditVault x = withEntries(60);
            x.path(0, 60);
            due("path", x.path(0, 1), 0);
            proofIs(x);
        });
        test(15, "of two", () -> {
            AuditVault x = withEntries(2);
            due("of the first", x.path(0, 2), 1);
            proofIs(x, leafOf(model, 1));
            due("of the last", x.path(1, 2), 1);
            proofIs(x, leafOf(model, 0));
        });
        test(15, "the last below k and the first not below k", () -> {
            AuditVault x = withEntries(6);
            due("entry 3 of 6", x.path(3, 6), 3);
            proofIs(x, leafOf(model, 2), rootOf(model, 0, 2), rootOf(model, 4, 6));
            due("entry 4 of 6", x.path(4, 6), 2);
            proofIs(x, leafOf(model, 5), rootOf(model, 0, 4));
        });
        test(15, "the last one, alone behind a power of two", () -> {
            AuditVault x = withEntries(33);
            due("path", x.path(32, 33), 1);
            proofIs(x, rootOf(model, 0, 32));
        });
        test(15, "the longest: the first of a full log", () -> {
            AuditVault x = withEntries(60);
            due("path", x.path(0, 60), 6);
            proofIs(x, leafOf(model, 1), rootOf(model, 2, 4), rootOf(model, 4, 8), rootOf(model, 8, 16),
                rootOf(model, 16, 32), rootOf(model, 32, 60));
        });
        test(15, "the last of a full log", () -> {
            AuditVault x = withEntries(60);
            due("path", x.path(59, 60), 5);
            proofIs(x, leafOf(model, 58), rootOf(model, 56, 58), rootOf(model, 48, 56), rootOf(model, 32, 48),
                rootOf(model, 0, 32));
        });
        test(15, "an entry that is not in the first n", () -> {
            AuditVault x = withEntries(7);
            x.path(1, 7);
            bad(x, "i is n", () -> x.path(5, 5));
            bad(x, "i is above n", () -> x.path(6, 5));
            bad(x, "i is below 0", () -> x.path(-1, 5));
            bad(x, "n is 0", () -> x.path(0, 0));
            bad(x, "n is below 0", () -> x.path(-2, -1));
        });
        test(15, "more than there are", () -> {
            AuditVault x = withEntries(7);
            due("all", x.path(6, 7), 2);
            bad(x, "one more", () -> x.path(6, 8));
            bad(x, "one more, the last", () -> x.path(7, 8));
        });
        test(15, "more than 60", () -> {
            AuditVault x = withEntries(60);
            bad(x, "61", () -> x.path(0, 61));
        });
        test(15, "none while shut", () -> {
            AuditVault x = withEntries(3);
            x.path(0, 3);
            x.cut(1020);
            bad(x, "path", () -> x.path(0, 1));
        });
    }

    // ---- promise 16

    private static void steps() {
        Model model = modelWithEntries(60);
        test(16, "no entries", () -> {
            AuditVault x = new AuditVault();
            bad(x, "from 0 to 0", () -> x.steps(0, 0));
            bad(x, "from 1 to 1", () -> x.steps(1, 1));
        });
        test(16, "m 0 is BAD", () -> {
            AuditVault x = withEntries(7);
            x.path(2, 7);
            bad(x, "to all", () -> x.steps(0, 7));
            bad(x, "to 0", () -> x.steps(0, 0));
            bad(x, "below 0", () -> x.steps(-1, 7));
        });
        test(16, "m is n: nothing", () -> {
            for (int n : new int[] {1, 2, 3, 32, 59, 60}) {
                AuditVault x = withEntries(60);
                x.path(0, 60);
                due("steps", x.steps(n, n), 0);
                proofIs(x);
            }
        });
        test(16, "m above n is BAD", () -> {
            AuditVault x = withEntries(7);
            x.path(2, 7);
            bad(x, "one above", () -> x.steps(6, 5));
            bad(x, "above 0", () -> x.steps(1, 0));
        });
        test(16, "more than there are", () -> {
            AuditVault x = withEntries(7);
            due("all", x.steps(6, 7), 3);
            bad(x, "one more", () -> x.steps(6, 8));
            bad(x, "both one more", () -> x.steps(8, 8));
        });
        test(16, "more than 60", () -> {
            AuditVault x = withEntries(60);
            bad(x, "to 61", () -> x.steps(60, 61));
            bad(x, "from 61", () -> x.steps(61, 61));
        });
        test(16, "from one to two", () -> {
            AuditVault x = withEntries(2);
            due("steps", x.steps(1, 2), 1);
            proofIs(x, leafOf(model, 1));
        });
        test(16, "from k, a whole one: the others alone", () -> {
            AuditVault x = withEntries(7);
            due("steps", x.steps(4, 7), 1);
            proofIs(x, rootOf(model, 4, 7));
        });
        test(16, "from k - 1", () -> {
            AuditVault x = withEntries(7);
            due("steps", x.steps(3, 7), 4);
            proofIs(x, leafOf(model, 2), leafOf(model, 3), rootOf(model, 0, 2), rootOf(model, 4, 7));
        });
        test(16, "from k + 1, not a whole one", () -> {
            AuditVault x = withEntries(7);
            due("steps", x.steps(5, 7), 4);
            proofIs(x, leafOf(model, 4), leafOf(model, 5), leafOf(model, 6), rootOf(model, 0, 4));
        });
        test(16, "from n - 1", () -> {
            AuditVault x = withEntries(7);
            due("steps", x.steps(6, 7), 3);
            proofIs(x, rootOf(model, 4, 6), leafOf(model, 6), rootOf(model, 0, 4));
        });
        test(16, "from 1 to a full log", () -> {
            AuditVault x = withEntries(60);
            due("steps", x.steps(1, 60), 6);
            proofIs(x, leafOf(model, 1), rootOf(model, 2, 4), rootOf(model, 4, 8), rootOf(model, 8, 16),
                rootOf(model, 16, 32), rootOf(model, 32, 60));
        });
        test(16, "from 59 to a full log", () -> {
            AuditVault x = withEntries(60);
            due("steps", x.steps(59, 60), 6);
            proofIs(x, leafOf(model, 58), leafOf(model, 59), rootOf(model, 56, 58), rootOf(model, 48, 56),
                rootOf(model, 32, 48), rootOf(model, 0, 32));
        });
        test(16, "eight hashes at most", () -> {
            AuditVault x = withEntries(60);
            int longest = 0;
            for (int n = 1; n <= 60; n++) {
                for (int m = 1; m <= n; m++) {
                    longest = Math.max(longest, x.steps(m, n));
                }
            }
            due("the longest", longest, 7);
        });
        test(16, "the longest", () -> {
            AuditVault x = withEntries(60);
            due("steps", x.steps(31, 60), 7);
            proofIs(x, leafOf(model, 30), leafOf(model, 31), rootOf(model, 28, 30), rootOf(model, 24, 28),
                rootOf(model, 16, 24), rootOf(model, 0, 16), rootOf(model, 32, 60));
        });
        test(16, "none while shut", () -> {
            AuditVault x = withEntries(3);
            x.path(0, 3);
            x.cut(1020);
            bad(x, "steps", () -> x.steps(1, 1));
        });
    }

    // ---- promises 17 to 19

    private static AuditVault withProof() {
        AuditVault x = withEntries(7);
        due("path", x.path(0, 7), 3);
        return x;
    }

    private static void proofs() {
        Model model = modelWithEntries(7);
        test(17, "no hashes", () -> {
            AuditVault x = withEntries(3);
            bad(x, "hash 0", () -> x.proof(0, 0));
        });
        test(17, "the first and the last byte of the first and the last hash", () -> {
            AuditVault x = withProof();
            due("first of the first", x.proof(0, 0), leafOf(model, 1)[0] & 255);
            due("last of the first", x.proof(0, 31), leafOf(model, 1)[31] & 255);
            due("first of the last", x.proof(2, 0), rootOf(model, 4, 7)[0] & 255);
            due("last of the last", x.proof(2, 31), rootOf(model, 4, 7)[31] & 255);
            bad(x, "hash 3", () -> x.proof(3, 0));
            bad(x, "hash -1", () -> x.proof(-1, 0));
            bad(x, "byte 32", () -> x.proof(2, 32));
            bad(x, "byte -1", () -> x.proof(0, -1));
        });
        test(17, "stays when the log goes on, and over a power cut", () -> {
            AuditVault x = withProof();
            addEntries(x, 3);
            x.cut(0);
            proofIs(x, leafOf(model, 1), rootOf(model, 2, 4), rootOf(model, 4, 7));
            x.open();
            proofIs(x, leafOf(model, 1), rootOf(model, 2, 4), rootOf(model, 4, 7));
        });
        for (int mask : new int[] {1, 128, 255}) {
            test(18, "mask " + mask + ", and back", () -> {
                AuditVault x = withProof();
                Sight before = new Sight(x);
                int was = x.proof(2, 31);
                due("spoil", x.spoilProof(2, 31, mask), was);
                due("spoilt", x.proof(2, 31), was ^ mask);
                due("its neighbour", x.proof(2, 30), rootOf(model, 4, 7)[30] & 255);
                due("spoil again", x.spoilProof(2, 31, mask), was ^ mask);
                due("as it was", before.firstChange(new Sight(x)).length(), 0);
            });
        }
        test(18, "no such byte, no such mask", () -> {
            AuditVault x = withProof();
            bad(x, "mask 0", () -> x.spoilProof(0, 0, 0));
            bad(x, "mask 256", () -> x.spoilProof(0, 0, 256));
            bad(x, "mask -1", () -> x.spoilProof(0, 0, -1));
            bad(x, "byte 32", () -> x.spoilProof(0, 32, 1));
            bad(x, "byte -1", () -> x.spoilProof(1, -1, 1));
            bad(x, "hash 3", () -> x.spoilProof(3, 0, 1));
            bad(x, "hash -1", () -> x.spoilProof(-1, 31, 1));
        });
        test(18, "no hashes", () -> {
            AuditVault x = withEntries(1);
            bad(x, "hash 0", () -> x.spoilProof(0, 0, 1));
        });
        test(18, "a proof that is made anew is whole", () -> {
            AuditVault x = withProof();
            x.spoilProof(0, 0, 255);
            x.path(0, 7);
            proofIs(x, leafOf(model, 1), rootOf(model, 2, 4), rootOf(model, 4, 7));
        });
        test(18, "the log's own hashes stay", () -> {
            AuditVault x = withProof();
            int root = x.root(7, 0);
            x.spoilProof(2, 0, 255);
            due("root", x.root(7, 0), root);
        });
        cutProofs(model);
    }

    private static void cutProofs(Model model) {
        test(19, "all stay", () -> {
            AuditVault x = withProof();
            due("gone", x.cutProof(3), 0);
            proofIs(x, leafOf(model, 1), rootOf(model, 2, 4), rootOf(model, 4, 7));
        });
        test(19, "one is gone, the last", () -> {
            AuditVault x = withProof();
            due("gone", x.cutProof(2), 1);
            proofIs(x, leafOf(model, 1), rootOf(model, 2, 4));
            bad(x, "spoil what is gone", () -> x.spoilProof(2, 0, 1));
            bad(x, "it has not so many any more", () -> x.cutProof(3));
        });
        test(19, "all are gone", () -> {
            AuditVault x = withProof();
            due("gone", x.cutProof(0), 3);
            proofIs(x);
        });
        test(19, "it has not so many", () -> {
            AuditVault x = withProof();
            bad(x, "one more", () -> x.cutProof(4));
            bad(x, "eight", () -> x.cutProof(8));
            bad(x, "below 0", () -> x.cutProof(-1));
        });
        test(19, "none of none", () -> {
            AuditVault x = new AuditVault();
            due("gone", x.cutProof(0), 0);
            bad(x, "one of none", () -> x.cutProof(1));
        });
        test(19, "while shut", () -> {
            AuditVault x = withProof();
            x.cut(0);
            due("gone", x.cutProof(1), 2);
        });
    }

    // ---- promises 20 to 22

    private static void keptIs(AuditVault x, int s, byte[] want) {
        bytes("kept root " + s + ", byte", want, k -> x.kept(s, k));
    }

    private static void keptRoots() {
        Model model = modelWithEntries(60);
        test(20, "of none", () -> {
            AuditVault x = new AuditVault();
            due("keep", x.keep(0, 0), 1);
            keptIs(x, 0, Model.hashOf());
            bad(x, "of one", () -> x.keep(0, 1));
        });
        test(20, "of all of a full log", () -> {
            AuditVault x = withEntries(60);
            due("keep", x.keep(3, 60), 1);
            keptIs(x, 3, rootOf(model, 0, 60));
            bad(x, "of 61", () -> x.keep(3, 61));
        });
        test(20, "more than there are, fewer than none", () -> {
            AuditVault x = withEntries(5);
            x.keep(2, 5);
            bad(x, "of 6", () -> x.keep(2, 6));
            bad(x, "of -1", () -> x.keep(2, -1));
        });
        test(20, "no such root", () -> {
            AuditVault x = withEntries(5);
            bad(x, "4", () -> x.keep(4, 5));
            bad(x, "-1", () -> x.keep(-1, 5));
        });
        test(20, "one alone of the four", () -> {
            for (int s = 0; s < 4; s++) {
                AuditVault x = withEntries(5);
                x.keep(s, 5);
                for (int other = 0; other < 4; other++) {
                    keptIs(x, other, other == s ? rootOf(model, 0, 5) : new byte[32]);
                }
            }
        });
        test(20, "stays when the log goes on", () -> {
            AuditVault x = withEntries(5);
            x.keep(0, 5);
            addEntries(x, 3);
            keptIs(x, 0, rootOf(model, 0, 5));
        });
        test(20, "stays over a power cut that loses the entries", () -> {
            AuditVault x = withEntries(5);
            x.keep(0, 5);
            x.cut(0);
            keptIs(x, 0, rootOf(model, 0, 5));
            x.open();
            keptIs(x, 0, rootOf(model, 0, 5));
        });
        test(20, "while shut of none alone", () -> {
            AuditVault x = shutWithEntries(5);
            bad(x, "of one", () -> x.keep(1, 1));
            due("of none", x.keep(1, 0), 1);
            keptIs(x, 1, Model.hashOf());
        });
        test(21, "no such root, no such byte", () -> {
            AuditVault x = withEntries(1);
            x.keep(3, 1);
            due("the last", x.kept(3, 31), leafOf(model, 0)[31] & 255);
            bad(x, "root 4", () -> x.kept(4, 0));
            bad(x, "root -1", () -> x.kept(-1, 31));
            bad(x, "byte 32", () -> x.kept(0, 32));
            bad(x, "byte -1", () -> x.kept(1, -1));
        });
        for (int mask : new int[] {1, 128, 255}) {
            test(22, "mask " + mask + ", and back", () -> {
                AuditVault x = withEntries(5);
                x.keep(3, 5);
                Sight before = new Sight(x);
                int was = x.kept(3, 31);
                due("spoil", x.spoilKept(3, 31, mask), was);
                due("spoilt", x.kept(3, 31), was ^ mask);
                due("its neighbour", x.kept(3, 30), rootOf(model, 0, 5)[30] & 255);
                due("spoil again", x.spoilKept(3, 31, mask), was ^ mask);
                due("as it was", before.firstChange(new Sight(x)).length(), 0);
            });
        }
        test(22, "one that was never kept", () -> {
            AuditVault x = new AuditVault();
            due("spoil", x.spoilKept(0, 0, 255), 0);
            due("spoilt", x.kept(0, 0), 255);
        });
        test(22, "kept anew it is whole", () -> {
            AuditVault x = withEntries(5);
            x.spoilKept(0, 0, 255);
            x.keep(0, 5);
            keptIs(x, 0, rootOf(model, 0, 5));
        });
        test(22, "no such byte, no such mask", () -> {
            AuditVault x = withEntries(5);
            bad(x, "mask 0", () -> x.spoilKept(0, 0, 0));
            bad(x, "mask 256", () -> x.spoilKept(0, 0, 256));
            bad(x, "mask -1", () -> x.spoilKept(0, 0, -1));
            bad(x, "byte 32", () -> x.spoilKept(0, 32, 1));
            bad(x, "byte -1", () -> x.spoilKept(1, -1, 1));
            bad(x, "root 4", () -> x.spoilKept(4, 0, 1));
            bad(x, "root -1", () -> x.spoilKept(-1, 31, 1));
        });
    }

    // ---- promise 23

    /** Seven entries, kept roots of the first 7, 1, 2 and 4. */
    private static AuditVault toJudge() {
        AuditVault x = withEntries(7);
        x.keep(0, 7);
        x.keep(1, 1);
        x.keep(2, 2);
        x.keep(3, 4);
        return x;
    }

    private static void judgedPaths() {
        test(23, "of one, by no hashes", () -> {
            AuditVault x = toJudge();
            due("right", x.judgePath(0, 1, 0, 1), 1);
            due("another entry", x.judgePath(0, 1, 1, 1), 0);
            due("another root", x.judgePath(0, 1, 0, 2), 0);
        });
        test(23, "i is n, though the hashes fit", () -> {
            AuditVault x = toJudge();
            due("1 of 1", x.judgePath(1, 1, 0, 1), 0);
            x.path(6, 7);
            due("7 of 7", x.judgePath(7, 7, 6, 0), 0);
            due("6 of 7", x.judgePath(6, 7, 6, 0), 1);
        });
        test(23, "i is above n", () -> due("2 of 1", toJudge().judgePath(2, 1, 0, 1), 0));
        test(23, "n is 0", () -> {
            AuditVault x = toJudge();
            due("0 of 0", x.judgePath(0, 0, 0, 1), 0);
            due("60 of 0", x.judgePath(60, 0, 0, 1), 0);
        });
        test(23, "a hash too many: s is 0 ahead of it", () -> {
            AuditVault x = toJudge();
            due("path", x.path(1, 2), 1);
            due("as 0 of 1, the hash being put ahead", x.judgePath(0, 1, 1, 2), 0);
            due("as 1 of 2", x.judgePath(1, 2, 1, 2), 1);
        });
        test(23, "a hash too few: s is not 0 in the end", () -> {
            AuditVault x = toJudge();
            due("as 0 of 2, of which the first is the root", x.judgePath(0, 2, 0, 1), 0);
            x.path(1, 2);
            due("as 1 of 3, of which two have the root", x.judgePath(1, 3, 1, 2), 0);
        });
        test(23, "a path cut by its last hash", () -> {
            AuditVault x = toJudge();
            x.path(0, 7);
            x.cutProof(2);
            due("of 7", x.judgePath(0, 7, 0, 0), 0);
            due("of the first four it is whole", x.judgePath(0, 4, 0, 3), 1);
        });
        test(23, "a bit of a hash, of the root", () -> {
            AuditVault x = toJudge();
            x.path(3, 7);
            due("right", x.judgePath(3, 7, 3, 0), 1);
            x.spoilProof(2, 31, 1);
            due("hash", x.judgePath(3, 7, 3, 0), 0);
            x.spoilProof(2, 31, 1);
            x.spoilKept(0, 0, 128);
            due("root", x.judgePath(3, 7, 3, 0), 0);
            x.spoilKept(0, 0, 128);
            x.spoilKept(0, 31, 1);
            due("root", x.judgePath(3, 7, 3, 0), 0);
            x.spoilKept(0, 31, 1);
            due("right again", x.judgePath(3, 7, 3, 0), 1);
        });
        test(23, "the greatest numbers", () -> {
            AuditVault x = withEntries(60);
            x.keep(3, 60);
            x.path(59, 60);
            due("59 of 60", x.judgePath(59, 60, 59, 3), 1);
            due("60 of 60", x.judgePath(60, 60, 59, 3), 0);
            bad(x, "61 of 60", () -> x.judgePath(61, 60, 59, 3));
            bad(x, "59 of 61", () -> x.judgePath(59, 61, 59, 3));
            bad(x, "entry 60", () -> x.judgePath(59, 60, 60, 3));
            bad(x, "root 4", () -> x.judgePath(59, 60, 59, 4));
        });
        test(23, "numbers below 0", () -> {
            AuditVault x = toJudge();
            bad(x, "i", () -> x.judgePath(-1, 7, 0, 0));
            bad(x, "n", () -> x.judgePath(0, -1, 0, 0));
            bad(x, "e", () -> x.judgePath(0, 7, -1, 0));
            bad(x, "s", () -> x.judgePath(0, 7, 0, -1));
        });
        test(23, "more than the log has are told, not BAD", () ->
            due("of 60", toJudge().judgePath(59, 60, 6, 0), 0));
        test(23, "an entry that the log has not", () -> {
            AuditVault x = toJudge();
            bad(x, "entry 7", () -> x.judgePath(0, 1, 7, 1));
            AuditVault none = new AuditVault();
            bad(none, "of no entries", () -> none.judgePath(0, 1, 0, 0));
        });
        test(23, "no entries while shut", () -> {
            AuditVault x = toJudge();
            x.cut(1020);
            bad(x, "entry 0", () -> x.judgePath(0, 1, 0, 1));
            x.open();
            due("opened", x.judgePath(0, 1, 0, 1), 1);
        });
        test(23, "changes nothing", () -> {
            AuditVault x = toJudge();
            x.path(3, 7);
            Sight before = new Sight(x);
            x.judgePath(3, 7, 3, 0);
            x.judgePath(3, 6, 2, 1);
            due("as it was", before.firstChange(new Sight(x)).length(), 0);
        });
    }

    // ---- promise 24

    private static void judgedSteps() {
        test(24, "m is 0", () -> {
            AuditVault x = toJudge();
            due("0 to 7", x.judgeSteps(0, 7, 0, 0), 0);
            due("0 to 0, no hashes, the same root", x.judgeSteps(0, 0, 0, 0), 0);
        });
        test(24, "m is above n", () -> {
            AuditVault x = toJudge();
            due("2 to 1", x.judgeSteps(2, 1, 0, 0), 0);
            due("1 to 0", x.judgeSteps(1, 0, 0, 0), 0);
            due("60 to 59", x.judgeSteps(60, 59, 0, 0), 0);
        });
        test(24, "m is n: no hashes, the same roots", () -> {
            AuditVault x = toJudge();
            due("one root", x.judgeSteps(7, 7, 0, 0), 1);
            due("other roots", x.judgeSteps(7, 7, 0, 1), 0);
            x.keep(1, 7);
            due("two roots that are the same", x.judgeSteps(7, 7, 0, 1), 1);
            x.spoilKept(1, 31, 1);
            due("but for a bit", x.judgeSteps(7, 7, 0, 1), 0);
            due("1 to 1", x.judgeSteps(1, 1, 1, 1), 1);
            due("60 to 60, of whatever root", x.judgeSteps(60, 60, 1, 1), 1);
        });
        test(24, "m is n, but there is a hash", () -> {
            AuditVault x = toJudge();
            due("steps", x.steps(1, 2), 1);
            due("7 to 7", x.judgeSteps(7, 7, 0, 0), 0);
        });
        test(24, "the row is empty", () -> {
            AuditVault x = toJudge();
            due("3 to 7", x.judgeSteps(3, 7, 0, 0), 0);
            due("59 to 60", x.judgeSteps(59, 60, 0, 0), 0);
        });
        test(24, "the row is the first root alone: s is not 0 in the end", () -> {
            AuditVault x = toJudge();
            due("1 to 2, the roots being the same", x.judgeSteps(1, 2, 1, 1), 0);
            due("4 to 7", x.judgeSteps(4, 7, 3, 3), 0);
        });
        test(24, "m is a power of two: the first root goes ahead", () -> {
            AuditVault x = toJudge();
            for (int[] pair : new int[][] {{1, 1}, {2, 2}, {4, 3}}) {
                x.steps(pair[0], 7);
                due(pair[0] + " to 7", x.judgeSteps(pair[0], 7, pair[1], 0), 1);
                x.spoilKept(pair[1], 0, 1);
                due("another first root", x.judgeSteps(pair[0], 7, pair[1], 0), 0);
                x.spoilKept(pair[1], 0, 1);
                x.spoilKept(0, 0, 1);
                due("another second root", x.judgeSteps(pair[0], 7, pair[1], 0), 0);
                x.spoilKept(0, 0, 1);
            }
        });
        test(24, "m is no power of two: the first hash is the first of the row", () -> {
            for (int m : new int[] {3, 5, 6}) {
                AuditVault x = toJudge();
                x.keep(1, m);
                x.steps(m, 7);
                due(m + " to 7", x.judgeSteps(m, 7, 1, 0), 1);
                x.spoilProof(0, 0, 1);
                due("another first hash", x.judgeSteps(m, 7, 1, 0), 0);
                x.spoilProof(0, 0, 1);
                x.spoilKept(1, 31, 1);
                due("another first root", x.judgeSteps(m, 7, 1, 0), 0);
                x.spoilKept(1, 31, 1);
                x.spoilKept(0, 31, 1);
                due("another second root", x.judgeSteps(m, 7, 1, 0), 0);
            }
        });
        moreJudgedSteps();
    }

    private static void moreJudgedSteps() {
        test(24, "a hash too many: s is 0 ahead of it", () -> {
            AuditVault x = withEntries(8);
            x.keep(0, 7);
            x.keep(1, 8);
            due("steps", x.steps(7, 8), 4);
            due("7 to 8", x.judgeSteps(7, 8, 0, 1), 1);
            due("as 3 to 4, the hash being put ahead", x.judgeSteps(3, 4, 0, 1), 0);
        });
        test(24, "a hash too few: s is not 0 in the end", () -> {
            AuditVault x = withEntries(8);
            x.keep(0, 3);
            x.keep(1, 4);
            due("steps", x.steps(3, 4), 3);
            due("3 to 4", x.judgeSteps(3, 4, 0, 1), 1);
            due("as 3 to 8, of which four have the root", x.judgeSteps(3, 8, 0, 1), 0);
        });
        test(24, "the greatest numbers", () -> {
            AuditVault x = withEntries(60);
            x.keep(2, 59);
            x.keep(3, 60);
            x.steps(59, 60);
            due("59 to 60", x.judgeSteps(59, 60, 2, 3), 1);
            bad(x, "61 to 60", () -> x.judgeSteps(61, 60, 2, 3));
            bad(x, "59 to 61", () -> x.judgeSteps(59, 61, 2, 3));
            bad(x, "first root 4", () -> x.judgeSteps(59, 60, 4, 3));
            bad(x, "second root 4", () -> x.judgeSteps(59, 60, 2, 4));
        });
        test(24, "numbers below 0", () -> {
            AuditVault x = toJudge();
            bad(x, "m", () -> x.judgeSteps(-1, 7, 0, 0));
            bad(x, "n", () -> x.judgeSteps(1, -1, 0, 0));
            bad(x, "s", () -> x.judgeSteps(1, 7, -1, 0));
            bad(x, "t", () -> x.judgeSteps(1, 7, 0, -1));
        });
        test(24, "no entries are needed", () -> {
            AuditVault x = new AuditVault();
            due("60 to 60, roots of 0", x.judgeSteps(60, 60, 0, 3), 1);
            due("32 to 60", x.judgeSteps(32, 60, 0, 3), 0);
        });
        test(24, "while shut", () -> {
            AuditVault x = toJudge();
            x.steps(2, 7);
            x.cut(0);
            due("2 to 7", x.judgeSteps(2, 7, 2, 0), 1);
        });
        test(24, "changes nothing", () -> {
            AuditVault x = toJudge();
            x.steps(3, 7);
            Sight before = new Sight(x);
            x.judgeSteps(3, 7, 1, 0);
            x.judgeSteps(4, 7, 3, 0);
            due("as it was", before.firstChange(new Sight(x)).length(), 0);
        });
    }

    public static void main(String[] args) {
        entries();
        chain();
        roots();
        paths();
        steps();
        proofs();
        keptRoots();
        judgedPaths();
        judgedSteps();
        end(12, 24);
    }
}
