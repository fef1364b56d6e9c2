/** Each promise of the document by its number: ordinary inputs, the edges that it names, wrong inputs. */
public final class PromisesTest extends Cases {
    private PromisesTest() { }

    private static void promise1NewObject() {
        AuditVault x = new AuditVault();
        for (int s = 0; s < 12; s++) {
            for (int what = 0; what < 4; what++) {
                due("1: subjectAt", x.subjectAt(s, what), 0);
            }
        }
        for (int o = 0; o < 16; o++) {
            due("1: objectAt", x.objectAt(o, 0), 0);
            due("1: objectAt", x.objectAt(o, 1), 0);
            for (int to = 0; to < 20; to++) {
                due("1: given", x.given(to, o, o % 4), to < 12 || to > 15 ? 0 : BAD);
            }
        }
        for (int what = 0; what < 8; what++) {
            due("1: count", x.count(what), 0);
        }
        for (int i = 0; i < 1020; i++) {
            due("1: disk", x.disk(i), 0);
        }
        for (int k = 0; k < 32; k++) {
            due("1: kept", x.kept(k % 4, k), 0);
            due("1: chain", x.chain(0, k), 0);
        }
        due("1: open", x.open(), NOT);
        due("1: entry", x.entry(0, 0), BAD);
        due("1: audit", x.audit(), NONE);
    }

    private static void promise2Clock() {
        AuditVault x = new AuditVault();
        due("2: clock", x.clock(0), 0);
        due("2: clock", x.clock(7), 7);
        due("2: clock", x.clock(1000000), 1000007);
        due("2: clock", x.clock(1000001), BAD);
        due("2: clock", x.clock(-1), BAD);
        due("2: clock", x.clock(LOW), BAD);
        due("2: clock", x.clock(HIGH), BAD);
        due("2: clock", x.count(4), 1000007);
        due("2: no entry", x.count(0), 0);
        due("2: cut", x.cut(0), 0);
        due("2: clock while shut", x.clock(3), 1000010);
        AuditVault late = new AuditVault();
        for (int i = 0; i < 2000; i++) {
            late.clock(1000000);
        }
        due("2: highest clock", late.clock(0), 2000000000);
        due("2: clock above", late.clock(1), BAD);
        due("2: clock stays", late.count(4), 2000000000);
    }

    private static void promise3Request() {
        AuditVault x = new AuditVault();
        due("3: owner reads", x.request(0, 15, 0), 0);
        due("3: lack", x.request(11, 15, 3), 4);
        x.object(1, 3, 4);
        for (int right = 0; right < 4; right++) {
            due("3: owner below", x.request(4, 1, right), right < 2 ? 2 : 0);
        }
        x.subject(4, 5, 0);
        due("3: above may read", x.request(4, 1, 0), 0);
        due("3: above may not write", x.request(4, 1, 1), 3);
        due("3: above may not add", x.request(4, 1, 2), 3);
        due("3: above may grant", x.request(4, 1, 3), 0);
        x.subject(4, 3, 0);
        for (int right = 0; right < 4; right++) {
            due("3: owner beside", x.request(4, 1, right), 0);
        }
        x.give(6, 2, 2);
        due("3: given to it", x.request(6, 2, 2), 0);
        due("3: another right", x.request(6, 2, 3), 4);
        due("3: another subject", x.request(7, 2, 2), 4);
        x.give(18, 2, 1);
        due("3: not its group", x.request(7, 2, 1), 4);
        x.subject(7, 0, 2);
        due("3: its group", x.request(7, 2, 1), 0);
        for (int[] wrong : new int[][] {{12, 0, 0}, {-1, 0, 0}, {0, 16, 0}, {0, -1, 0}, {0, 0, 4}, {0, 0, -1},
            {16, 0, 0}, {LOW, 0, 0}, {0, HIGH, 0}, {0, 0, LOW}}) {
            due("3: wrong", x.request(wrong[0], wrong[1], wrong[2]), BAD);
        }
    }

    private static void promise3Locking() {
        AuditVault x = new AuditVault();
        due("3: first", x.request(2, 0, 0), 4);
        due("3: second", x.request(2, 0, 0), 4);
        due("3: not yet", x.subjectAt(2, 2), 0);
        x.give(2, 1, 0);
        due("3: allowed", x.request(2, 1, 0), 0);
        due("3: anew", x.subjectAt(2, 3), 0);
        x.request(2, 0, 0);
        x.request(2, 0, 0);
        x.request(3, 0, 0);
        due("3: third", x.request(2, 0, 0), 4);
        due("3: locked", x.subjectAt(2, 2), 1);
        due("3: other", x.subjectAt(3, 3), 1);
        due("3: locked, though it holds", x.request(2, 1, 0), 1);
        due("3: counts on", x.subjectAt(2, 3), 4);
        due("3: locked ahead of up", x.object(5, 7, 2), 1);
        due("3: locked ahead of up", x.request(2, 5, 0), 1);
        due("3: allowed ever", x.count(6), 1);
        due("3: denied ever", x.count(7), 8);
    }

    private static void promise4Give() {
        AuditVault x = new AuditVault();
        for (int to : new int[] {0, 11, 16, 19}) {
            due("4: give", x.give(to, 15, 3), 1);
            due("4: again", x.give(to, 15, 3), 0);
            due("4: given", x.given(to, 15, 3), 1);
        }
        due("4: another", x.given(1, 15, 3), 0);
        due("4: entries", x.count(0), 8);
        due("4: kind", x.entry(5, 2), 1);
        due("4: a", x.entry(5, 3), 16);
        due("4: b", x.entry(5, 4), 15);
        due("4: c", x.entry(5, 5), 3);
        for (int[] wrong : new int[][] {{12, 0, 0}, {15, 0, 0}, {20, 0, 0}, {-1, 0, 0}, {0, 16, 0}, {0, -1, 0},
            {0, 0, 4}, {0, 0, -1}, {HIGH, 0, 0}, {0, LOW, 0}}) {
            due("4: wrong give", x.give(wrong[0], wrong[1], wrong[2]), BAD);
            due("5: wrong take", x.take(wrong[0], wrong[1], wrong[2]), BAD);
            due("11: wrong given", x.given(wrong[0], wrong[1], wrong[2]), BAD);
        }
        due("4: entries stay", x.count(0), 8);
    }

    private static void promise5Take() {
        AuditVault x = new AuditVault();
        due("5: take", x.take(17, 4, 2), 0);
        x.give(17, 4, 2);
        x.give(17, 4, 3);
        due("5: take", x.take(17, 4, 2), 1);
        due("5: given", x.given(17, 4, 2), 0);
        due("5: other stays", x.given(17, 4, 3), 1);
        due("5: again", x.take(17, 4, 2), 0);
        due("5: entries", x.count(0), 5);
        due("5: kind", x.entry(4, 2), 2);
        due("5: a", x.entry(4, 3), 17);
        due("5: cause", x.entry(4, 6), 0);
        x.subject(1, 0, 1);
        x.take(17, 4, 3);
        due("5: lacks it now", x.request(1, 4, 3), 4);
    }

    private static void promise6Subject() {
        AuditVault x = new AuditVault();
        due("6: subject", x.subject(11, 7, 3), 1);
        due("6: same again", x.subject(11, 7, 3), 1);
        due("6: level", x.subjectAt(11, 0), 7);
        due("6: group", x.subjectAt(11, 1), 3);
        due("6: entries", x.count(0), 2);
        int[] want = {0, 1, 3, 11, 7, 3, 0, 165, 0, 0, 0, 0};
        for (int k = 0; k < 12; k++) {
            due("6: entry byte " + k, x.entry(1, k), want[k]);
        }
        for (int[] wrong : new int[][] {{12, 0, 0}, {-1, 0, 0}, {0, 8, 0}, {0, -1, 0}, {0, 0, 4}, {0, 0, -1}}) {
            due("6: wrong", x.subject(wrong[0], wrong[1], wrong[2]), BAD);
        }
        x.request(1, 0, 0);
        x.request(1, 0, 0);
        x.subject(1, 1, 1);
        due("6: does not count anew", x.subjectAt(1, 3), 2);
    }

    private static void promise7Object() {
        AuditVault x = new AuditVault();
        due("7: object", x.object(15, 7, 11), 1);
        due("7: level", x.objectAt(15, 0), 7);
        due("7: owner", x.objectAt(15, 1), 11);
        int[] want = {0, 0, 4, 15, 7, 11, 0, 165, 0, 0, 0, 0};
        for (int k = 0; k < 12; k++) {
            due("7: entry byte " + k, x.entry(0, k), want[k]);
        }
        for (int[] wrong : new int[][] {{16, 0, 0}, {-1, 0, 0}, {0, 8, 0}, {0, -1, 0}, {0, 0, 12}, {0, 0, -1}}) {
            due("7: wrong", x.object(wrong[0], wrong[1], wrong[2]), BAD);
        }
        due("7: entries", x.count(0), 1);
    }

    private static void promise8Unlock() {
        AuditVault x = new AuditVault();
        due("8: was not", x.unlock(5), 0);
        x.request(5, 0, 0);
        x.request(5, 0, 0);
        due("8: was not", x.unlock(5), 0);
        due("8: anew", x.subjectAt(5, 3), 0);
        x.request(5, 0, 0);
        x.request(5, 0, 0);
        due("8: not locked", x.subjectAt(5, 2), 0);
        x.request(5, 0, 0);
        due("8: locked", x.subjectAt(5, 2), 1);
        due("8: was", x.unlock(5), 1);
        due("8: not locked", x.subjectAt(5, 2), 0);
        due("8: anew", x.subjectAt(5, 3), 0);
        int[] want = {0, 7, 5, 5, 0, 0, 0, 165, 0, 0, 0, 0};
        for (int k = 0; k < 12; k++) {
            due("8: entry byte " + k, x.entry(7, k), want[k]);
        }
        due("8: wrong", x.unlock(12), BAD);
        due("8: wrong", x.unlock(-1), BAD);
        due("8: entries", x.count(0), 8);
    }

    private static void promises9To11Looks() {
        AuditVault x = new AuditVault();
        x.subject(3, 6, 2);
        x.object(9, 5, 8);
        x.request(3, 9, 1);
        int[] subject = {6, 2, 0, 1};
        for (int what = 0; what < 4; what++) {
            due("9: subjectAt", x.subjectAt(3, what), subject[what]);
        }
        due("9: wrong", x.subjectAt(12, 0), BAD);
        due("9: wrong", x.subjectAt(-1, 0), BAD);
        due("9: wrong", x.subjectAt(0, 4), BAD);
        due("9: wrong", x.subjectAt(0, -1), BAD);
        due("10: level", x.objectAt(9, 0), 5);
        due("10: owner", x.objectAt(9, 1), 8);
        due("10: wrong", x.objectAt(16, 0), BAD);
        due("10: wrong", x.objectAt(-1, 0), BAD);
        due("10: wrong", x.objectAt(0, 2), BAD);
        due("10: wrong", x.objectAt(0, -1), BAD);
        x.give(10, 9, 0);
        due("11: given", x.given(10, 9, 0), 1);
        due("11: not", x.given(10, 9, 1), 0);
        due("11: not", x.given(10, 8, 0), 0);
        x.cut(0);
        due("9: while shut", x.subjectAt(3, 0), 6);
        due("10: while shut", x.objectAt(9, 1), 8);
        due("11: while shut", x.given(10, 9, 0), 1);
    }

    private static void promise12Entry() {
        AuditVault x = new AuditVault();
        for (int i = 0; i < 500; i++) {
            x.clock(1000000);
        }
        x.request(2, 3, 1);
        int[] want = {0, 0, 0, 2, 3, 1, 4, 165, 29, 205, 101, 0};
        for (int k = 0; k < 12; k++) {
            due("12: entry byte " + k, x.entry(0, k), want[k]);
        }
        due("12: wrong", x.entry(1, 0), BAD);
        due("12: wrong", x.entry(-1, 0), BAD);
        due("12: wrong", x.entry(0, 12), BAD);
        due("12: wrong", x.entry(0, -1), BAD);
        x.sync();
        x.cut(0);
        due("12: while shut", x.entry(0, 0), BAD);
        x.open();
        due("12: open again", x.entry(0, 11), 0);
        AuditVault full = withEntries(60);
        due("12: last number", full.entry(59, 1), 59);
        due("12: wrong", full.entry(60, 1), BAD);
    }

    private static void promises13And14ChainAndRoot() {
        AuditVault x = withEntries(60);
        Model model = modelWithEntries(60);
        for (int n = 0; n <= 60; n++) {
            byte[] chain = Model.chainOf(model.log, n);
            byte[] root = Model.rootOf(model.log.subList(0, n));
            for (int k = 0; k < 32; k++) {
                due("13: chain " + n, x.chain(n, k), chain[k] & 255);
                due("14: root " + n, x.root(n, k), root[k] & 255);
            }
        }
        for (int[] wrong : new int[][] {{61, 0}, {-1, 0}, {0, 32}, {0, -1}, {HIGH, 0}, {LOW, 0}}) {
            due("13: wrong", x.chain(wrong[0], wrong[1]), BAD);
            due("14: wrong", x.root(wrong[0], wrong[1]), BAD);
        }
        x.sync();
        x.cut(0);
        due("13: shut", x.chain(1, 0), BAD);
        due("13: C 0", x.chain(0, 0), 0);
        due("14: shut", x.root(1, 0), BAD);
        due("14: of none", x.root(0, 0), 227);
    }

    private static void promises15To17Proofs() {
        AuditVault x = withEntries(7);
        due("15: path", x.path(0, 7), 3);
        due("15: path", x.path(6, 7), 2);
        due("15: path", x.path(0, 1), 0);
        due("16: steps", x.steps(3, 7), 4);
        due("16: steps", x.steps(4, 7), 1);
        due("16: steps", x.steps(6, 7), 3);
        due("16: steps", x.steps(7, 7), 0);
        due("17: none", x.proof(0, 0), BAD);
        due("15: path", x.path(2, 5), 3);
        Model model = modelWithEntries(7);
        model.path(2, 5);
        for (int h = 0; h < 3; h++) {
            for (int k = 0; k < 32; k++) {
                due("17: proof", x.proof(h, k), model.proof(h, k));
            }
        }
        for (int[] wrong : new int[][] {{7, 7}, {-1, 7}, {0, 8}, {0, 0}, {0, -1}, {5, 3}, {LOW, HIGH}}) {
            due("15: wrong", x.path(wrong[0], wrong[1]), BAD);
        }
        for (int[] wrong : new int[][] {{0, 7}, {-1, 7}, {1, 8}, {0, 0}, {1, 0}, {5, 3}, {8, 8}, {LOW, HIGH}}) {
            due("16: wrong", x.steps(wrong[0], wrong[1]), BAD);
        }
        due("15: wrong changes nothing", x.count(5), 3);
        due("17: wrong", x.proof(3, 0), BAD);
        due("17: wrong", x.proof(-1, 0), BAD);
        due("17: wrong", x.proof(0, 32), BAD);
        due("17: wrong", x.proof(0, -1), BAD);
        x.cut(1020);
        due("15: shut", x.path(0, 1), BAD);
        due("16: shut", x.steps(1, 1), BAD);
        due("17: stays while shut", x.proof(2, 31), model.proof(2, 31));
    }

    private static void promises18And19SpoilAndCutProof() {
        AuditVault x = withEntries(7);
        x.path(0, 7);
        int was = x.proof(2, 31);
        due("18: spoil", x.spoilProof(2, 31, 255), was);
        due("18: spoilt", x.proof(2, 31), was ^ 255);
        due("18: spoil", x.spoilProof(2, 31, 1), was ^ 255);
        due("18: spoilt", x.proof(2, 31), was ^ 254);
        for (int[] wrong : new int[][] {{3, 0, 1}, {-1, 0, 1}, {0, 32, 1}, {0, -1, 1}, {0, 0, 0}, {0, 0, 256},
            {0, 0, -1}, {0, 0, LOW}}) {
            due("18: wrong", x.spoilProof(wrong[0], wrong[1], wrong[2]), BAD);
        }
        due("19: wrong", x.cutProof(4), BAD);
        due("19: wrong", x.cutProof(-1), BAD);
        due("19: none gone", x.cutProof(3), 0);
        due("19: one gone", x.cutProof(2), 1);
        due("19: gone", x.proof(2, 0), BAD);
        due("19: two gone", x.cutProof(0), 2);
        due("19: empty", x.count(5), 0);
        due("19: none gone", x.cutProof(0), 0);
        due("18: empty", x.spoilProof(0, 0, 1), BAD);
    }

    private static void promises20To22KeptRoots() {
        AuditVault x = withEntries(5);
        for (int n = 0; n < 6; n++) {
            due("20: keep", x.keep(n % 4, n), 1);
            for (int k = 0; k < 32; k++) {
                due("21: kept", x.kept(n % 4, k), x.root(n, k));
            }
        }
        due("20: wrong", x.keep(4, 0), BAD);
        due("20: wrong", x.keep(-1, 0), BAD);
        due("20: wrong", x.keep(0, 6), BAD);
        due("20: wrong", x.keep(0, -1), BAD);
        due("20: stays", x.kept(0, 3), x.root(4, 3));
        due("21: wrong", x.kept(4, 0), BAD);
        due("21: wrong", x.kept(-1, 0), BAD);
        due("21: wrong", x.kept(0, 32), BAD);
        due("21: wrong", x.kept(0, -1), BAD);
        int was = x.kept(1, 6);
        due("22: spoil", x.spoilKept(1, 6, 129), was);
        due("22: spoilt", x.kept(1, 6), was ^ 129);
        due("22: neighbour", x.kept(1, 5), x.root(5, 5));
        for (int[] wrong : new int[][] {{4, 0, 1}, {-1, 0, 1}, {0, 32, 1}, {0, -1, 1}, {0, 0, 0}, {0, 0, 256}, {0, 0, -1}}) {
            due("22: wrong", x.spoilKept(wrong[0], wrong[1], wrong[2]), BAD);
        }
        x.cut(0);
        due("20: shut", x.keep(0, 1), BAD);
        due("20: of none", x.keep(0, 0), 1);
        due("21: of none", x.kept(0, 0), 227);
        due("21: stays while shut", x.kept(1, 6), was ^ 129);
    }

    private static void promises23And24Judging() {
        AuditVault x = withEntries(7);
        x.keep(0, 7);
        x.keep(1, 5);
        x.keep(2, 4);
        x.path(4, 7);
        due("23: right", x.judgePath(4, 7, 4, 0), 1);
        due("23: other number", x.judgePath(5, 7, 4, 0), 0);
        due("23: other entry", x.judgePath(4, 7, 5, 0), 0);
        due("23: other root", x.judgePath(4, 7, 4, 1), 0);
        due("23: i is n", x.judgePath(7, 7, 4, 0), 0);
        due("23: n is 0", x.judgePath(0, 0, 4, 0), 0);
        due("23: n beyond the log", x.judgePath(60, 60, 6, 0), 0);
        for (int[] wrong : new int[][] {{61, 7, 4, 0}, {-1, 7, 4, 0}, {4, 61, 4, 0}, {4, -1, 4, 0}, {4, 7, 7, 0},
            {4, 7, -1, 0}, {4, 7, 4, 4}, {4, 7, 4, -1}}) {
            due("23: wrong", x.judgePath(wrong[0], wrong[1], wrong[2], wrong[3]), BAD);
        }
        x.steps(5, 7);
        due("24: right", x.judgeSteps(5, 7, 1, 0), 1);
        due("24: turned", x.judgeSteps(5, 7, 0, 1), 0);
        due("24: other m", x.judgeSteps(6, 7, 1, 0), 0);
        due("24: m above n", x.judgeSteps(8, 7, 1, 0), 0);
        due("24: m is 0", x.judgeSteps(0, 7, 1, 0), 0);
        due("24: m is n, not empty", x.judgeSteps(7, 7, 0, 0), 0);
        x.cutProof(0);
        due("24: empty row", x.judgeSteps(5, 7, 1, 0), 0);
        due("24: the root alone", x.judgeSteps(4, 7, 2, 0), 0);
        due("24: m is n", x.judgeSteps(60, 60, 0, 0), 1);
        due("24: m is n, other roots", x.judgeSteps(7, 7, 0, 2), 0);
        x.steps(4, 7);
        for (int[] wrong : new int[][] {{61, 7, 1, 0}, {-1, 7, 1, 0}, {5, 61, 1, 0}, {5, -1, 1, 0}, {5, 7, 4, 0},
            {5, 7, -1, 0}, {5, 7, 1, 4}, {5, 7, 1, -1}}) {
            due("24: wrong", x.judgeSteps(wrong[0], wrong[1], wrong[2], wrong[3]), BAD);
        }
        x.cut(0);
        due("23: shut", x.judgePath(4, 7, 4, 0), BAD);
        due("24: no entry is needed", x.judgeSteps(4, 7, 2, 0), 1);
    }

    private static void promises25To27Power() {
        AuditVault x = withEntries(2);
        due("25: sync", x.sync(), 34);
        due("25: again", x.sync(), 34);
        x.request(0, 0, 0);
        x.request(0, 1, 0);
        due("26: wrong", x.cut(-1), BAD);
        due("26: wrong", x.cut(1021), BAD);
        due("27: not shut", x.open(), NOT);
        due("26: cut", x.cut(33), 67);
        due("26: wrong goes ahead of shut", x.cut(1021), BAD);
        due("26: shut", x.cut(0), SHUT);
        due("25: shut", x.sync(), SHUT);
        due("26: written", x.count(1), 67);
        due("26: safe", x.count(2), 34);
        due("26: lost", x.disk(67), 0);
        due("26: stays", x.disk(51), 90);
        due("27: open", x.open(), 3);
        due("27: behind is 0", x.disk(51), 0);
        due("27: written", x.count(1), 51);
        due("27: safe", x.count(2), 51);
        due("26: nothing to lose", x.cut(0), 51);
        due("27: open", x.open(), 3);
        x.request(0, 2, 0);
        due("26: all stay", x.cut(17), 68);
        due("27: open", x.open(), 4);
        x.request(0, 2, 0);
        due("26: none stays", x.cut(0), 68);
        due("27: open", x.open(), 4);
        due("27: monitor stays", x.count(6), 6);
        due("27: full log", withPowerCutWhenFull(), 60);
    }

    private static int withPowerCutWhenFull() {
        AuditVault x = withEntries(60);
        due("26: full", x.cut(1020), 1020);
        int entries = x.open();
        due("27: full", x.request(0, 0, 0), FULL);
        return entries;
    }

    /** A frame is wrong by its first byte, its number, or its part of the chain; and only by these. */
    private static void promise27WrongFrames() {
        for (int k = 0; k < 17; k++) {
            AuditVault x = withEntries(4);
            x.sync();
            x.spoil(34 + k, 64);
            x.cut(0);
            due("27: spoilt byte " + k, x.open(), 2);
            due("27: behind is 0", x.disk(51), 0);
            due("27: written", x.count(1), 34);
            due("27: goes on", x.request(0, 9, 0), 0);
            due("27: new entry", x.entry(2, 4), 9);
            due("27: no fault", x.audit(), NONE);
        }
    }

    /** Whoever can hash can write a frame that is right: what is read again is that frame's entry. */
    private static void promise27ForgedFrame() {
        AuditVault x = withEntries(2);
        x.sync();
        x.cut(0);
        Model model = modelWithEntries(2);
        byte[] forged = model.log.get(1).clone();
        forged[4] = 77;
        forged[7] = 1;
        model.log.set(1, forged);
        for (int k = 0; k < 17; k++) {
            int mask = x.disk(17 + k) ^ Model.frameOf(model.log, 1)[k] & 255;
            if (mask != 0) {
                x.spoil(17 + k, mask);
            }
        }
        due("27: forged", x.open(), 2);
        due("27: forged b", x.entry(1, 4), 77);
        due("27: forged mark", x.entry(1, 7), 1);
        due("27: its chain", x.chain(2, 9), Model.chainOf(model.log, 2)[9] & 255);
        due("27: its root", x.root(2, 9), Model.rootOf(model.log)[9] & 255);
        due("30: as it was read", x.audit(), NONE);
        forged[0] = 1;
        x.cut(0);
        for (int k = 0; k < 17; k++) {
            int mask = x.disk(17 + k) ^ Model.frameOf(model.log, 1)[k] & 255;
            if (mask != 0) {
                x.spoil(17 + k, mask);
            }
        }
        due("27: another number", x.open(), 1);
    }

    private static void promises28And29Disk() {
        AuditVault x = withEntries(3);
        for (int k = 0; k < 12; k++) {
            due("28: the entry", x.disk(18 + k), x.entry(1, k));
        }
        due("28: its mark", x.disk(17), 90);
        for (int k = 0; k < 4; k++) {
            due("28: its chain", x.disk(30 + k), x.chain(2, k));
        }
        due("28: behind", x.disk(51), 0);
        due("28: wrong", x.disk(1020), BAD);
        due("28: wrong", x.disk(-1), BAD);
        due("29: spoil", x.spoil(17, 255), 90);
        due("29: spoilt", x.disk(17), 165);
        due("29: back", x.spoil(17, 255), 165);
        due("29: last", x.spoil(1019, 3), 0);
        due("29: last", x.disk(1019), 3);
        for (int[] wrong : new int[][] {{1020, 1}, {-1, 1}, {0, 0}, {0, 256}, {0, -1}, {HIGH, HIGH}}) {
            due("29: wrong", x.spoil(wrong[0], wrong[1]), BAD);
        }
        due("29: the log stays", x.entry(1, 1), 1);
        x.cut(0);
        due("28: lost", x.disk(0), 0);
        due("28: lost though never written", x.disk(1019), 0);
        due("29: while shut", x.spoil(700, 8), 0);
        due("28: while shut", x.disk(700), 8);
        due("27: open", x.open(), 0);
        due("28: behind is 0", x.disk(700), 0);
        x.spoil(900, 8);
        x.cut(1020);
        due("26: a byte that is not safe stays", x.disk(900), 8);
    }

    private static void promise30Audit() {
        AuditVault x = withEntries(5);
        due("30: none", x.audit(), NONE);
        for (int i = 84; i >= 0; i--) {
            x.spoil(i, 16);
            due("30: spoilt " + i, x.audit(), i / 17);
        }
        for (int i = 0; i < 85; i++) {
            due("30: first", x.audit(), i / 17);
            x.spoil(i, 16);
        }
        due("30: back", x.audit(), NONE);
        x.spoil(85, 1);
        due("30: behind the entries", x.audit(), NONE);
        x.cut(1020);
        due("30: shut", x.audit(), SHUT);
    }

    private static void promise31Hash() {
        AuditVault x = new AuditVault();
        Model model = new Model();
        long a = 0x80ff00017f20fe03L;
        long b = -2L;
        for (int n = 0; n <= 16; n++) {
            for (int k = 0; k < 32; k++) {
                due("31: hash " + n, x.hash(a, b, n, k), model.hash(a, b, n, k));
            }
        }
        due("31: abc", x.hash(0x6162630000000000L, 0, 3, 0), 0xba);
        due("31: wrong", x.hash(a, b, 17, 0), BAD);
        due("31: wrong", x.hash(a, b, -1, 0), BAD);
        due("31: wrong", x.hash(a, b, 0, 32), BAD);
        due("31: wrong", x.hash(a, b, 0, -1), BAD);
    }

    private static void promise32Count() {
        AuditVault x = withEntries(3);
        x.request(1, 0, 0);
        x.clock(5);
        x.sync();
        x.subject(1, 1, 1);
        x.path(0, 4);
        int[] want = {5, 85, 68, 0, 5, 2, 3, 1};
        for (int what = 0; what < 8; what++) {
            due("32: count " + what, x.count(what), want[what]);
        }
        x.cut(3);
        int[] shut = {0, 71, 68, 1, 5, 2, 3, 1};
        for (int what = 0; what < 8; what++) {
            due("32: count while shut " + what, x.count(what), shut[what]);
        }
        due("32: wrong", x.count(8), BAD);
        due("32: wrong", x.count(-1), BAD);
        due("32: wrong", x.count(LOW), BAD);
    }

    private static void promise33Digest() {
        AuditVault x = new AuditVault();
        long h = 17;
        for (int i = 0; i < 48 + 32 + 1020 + 6; i++) {
            h = 31 * h;
        }
        due("33: new", x.digest(), h);
        x.clock(9);
        due("33: clock", x.digest(), h + 9 * 31);
        x.spoil(1019, 200);
        due("33: disk", x.digest(), h + 9 * 31 + 200L * 31 * 31 * 31 * 31 * 31 * 31);
        Model model = new Model();
        AuditVault y = new AuditVault();
        y.subject(11, 7, 3);
        model.subject(11, 7, 3);
        y.object(15, 6, 10);
        model.object(15, 6, 10);
        y.request(4, 15, 0);
        model.request(4, 15, 0);
        due("33: acts", y.digest(), model.digest());
        y.cut(20);
        model.cut(20);
        due("33: shut", y.digest(), model.digest());
    }

    /** Bad goes ahead of shut, shut ahead of full; none of them changes anything. */
    private static void answersBelowZero() {
        AuditVault x = withEntries(60);
        long full = x.digest();
        due("full request", x.request(1, 0, 0), FULL);
        due("full give", x.give(1, 0, 0), FULL);
        due("full take", x.take(1, 0, 0), FULL);
        due("full subject", x.subject(1, 1, 1), FULL);
        due("full object", x.object(1, 1, 1), FULL);
        due("full unlock", x.unlock(1), FULL);
        due("bad ahead of full", x.request(12, 0, 0), BAD);
        due("nothing was given", x.given(1, 0, 0), 0);
        due("nothing was denied", x.count(7), 0);
        due("full changes nothing", x.digest(), full);
        x.cut(1020);
        long shut = x.digest();
        due("shut request", x.request(1, 0, 0), SHUT);
        due("shut give", x.give(1, 0, 0), SHUT);
        due("shut take", x.take(1, 0, 0), SHUT);
        due("shut subject", x.subject(1, 1, 1), SHUT);
        due("shut object", x.object(1, 1, 1), SHUT);
        due("shut unlock", x.unlock(1), SHUT);
        due("bad ahead of shut", x.give(12, 0, 0), BAD);
        due("bad ahead of shut", x.take(12, 0, 0), BAD);
        due("bad ahead of shut", x.subject(1, 8, 1), BAD);
        due("bad ahead of shut", x.object(1, 8, 1), BAD);
        due("bad ahead of shut", x.unlock(12), BAD);
        due("nothing was given", x.given(1, 0, 0), 0);
        due("shut changes nothing", x.digest(), shut);
    }

    public static void main(String[] args) {
        promise1NewObject();
        promise2Clock();
        promise3Request();
        promise3Locking();
        promise4Give();
        promise5Take();
        promise6Subject();
        promise7Object();
        promise8Unlock();
        promises9To11Looks();
        promise12Entry();
        promises13And14ChainAndRoot();
        promises15To17Proofs();
        promises18And19SpoilAndCutProof();
        promises20To22KeptRoots();
        promises23And24Judging();
        promises25To27Power();
        promise27WrongFrames();
        promise27ForgedFrame();
        promises28And29Disk();
        promise30Audit();
        promise31Hash();
        promise32Count();
        promise33Digest();
        answersBelowZero();
        Check.end();
    }
}
