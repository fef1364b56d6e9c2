/** The boundary cases that the document names for the monitor (promises 1 to 11, part 2 of the terms). */
public final class MonitorEdgesTest extends Cases {
    private static final int READ = 0, WRITE = 1, ADD = 2, GRANT = 3;
    private static final int ALLOWED = 0, LOCKED = 1, UP = 2, DOWN = 3, LACK = 4;

    private MonitorEdgesTest() { }

    /** Subject 5, at a level, owns object 5, at another level. */
    private static AuditVault withLevels(int ofSubject, int ofObject) {
        AuditVault x = new AuditVault();
        due("place the subject", x.subject(5, ofSubject, 0), 1);
        due("place the object", x.object(5, ofObject, 5), 1);
        return x;
    }

    private static void causes(int ofSubject, int ofObject, int read, int write, int add, int grant) {
        int[] want = {read, write, add, grant};
        for (int right = 0; right < 4; right++) {
            AuditVault x = withLevels(ofSubject, ofObject);
            due("right " + right + " at " + ofSubject + " of " + ofObject, x.request(5, 5, right), want[right]);
        }
    }

    // ---- promise 1

    private static void newObject() {
        test(1, "every subject is 0", () -> {
            AuditVault x = new AuditVault();
            for (int s = 0; s < 12; s++) {
                row("subject " + s, new int[] {0, 0, 0, 0}, subjectAt(x, s));
            }
        });
        test(1, "every object is 0", () -> {
            AuditVault x = new AuditVault();
            for (int o = 0; o < 16; o++) {
                due("level", x.objectAt(o, 0), 0);
                due("owner", x.objectAt(o, 1), 0);
            }
        });
        test(1, "nothing is given", () -> {
            AuditVault x = new AuditVault();
            for (int to : new int[] {0, 1, 2, 3, 4, 5, 6, 7, 8, 9, 10, 11, 16, 17, 18, 19}) {
                for (int o = 0; o < 16; o++) {
                    for (int right = 0; right < 4; right++) {
                        due("given", x.given(to, o, right), 0);
                    }
                }
            }
        });
        test(1, "every count is 0", () -> row("count", new int[8], new AuditVault()::count));
        test(1, "every byte of the disk is 0", () -> row("disk", new int[1020], new AuditVault()::disk));
        test(1, "every kept root is 32 bytes 0", () -> {
            AuditVault x = new AuditVault();
            for (int s = 0; s < 4; s++) {
                int root = s;
                row("kept", new int[32], k -> x.kept(root, k));
            }
        });
        test(1, "the log is empty", () -> {
            AuditVault x = new AuditVault();
            bad(x, "entry", () -> x.entry(0, 0));
            due("audit", x.audit(), NONE);
        });
        test(1, "the proof is empty", () -> {
            AuditVault x = new AuditVault();
            bad(x, "proof", () -> x.proof(0, 0));
        });
        test(1, "the log is not shut", () -> {
            AuditVault x = new AuditVault();
            refused(x, "open", NOT, x::open);
            due("request", x.request(0, 0, 0), ALLOWED);
        });
        test(1, "an object shares nothing with another", () -> {
            AuditVault one = new AuditVault();
            AuditVault other = new AuditVault();
            Sight before = new Sight(other);
            one.clock(7);
            one.give(1, 2, 3);
            addEntries(one, 5);
            one.keep(2, 4);
            one.path(0, 5);
            one.spoil(800, 1);
            one.cut(3);
            due("the other is as it was, but " + before.firstChange(new Sight(other)),
                before.firstChange(new Sight(other)).length(), 0);
        });
    }

    private static java.util.function.IntUnaryOperator subjectAt(AuditVault x, int s) {
        return what -> x.subjectAt(s, what);
    }

    // ---- promise 2

    /** 2000 calls, though the document has an object used for 512: no shorter run reaches the greatest clock. */
    private static AuditVault atLatest() {
        AuditVault x = new AuditVault();
        for (int i = 0; i < 2000; i++) {
            x.clock(1000000);
        }
        return x;
    }

    private static void clock() {
        test(2, "goes on by 0", () -> {
            AuditVault x = new AuditVault();
            due("clock", x.clock(0), 0);
            x.clock(9);
            due("clock", x.clock(0), 9);
        });
        test(2, "goes on by 1", () -> due("clock", new AuditVault().clock(1), 1));
        test(2, "goes on by 1000000", () -> {
            AuditVault x = new AuditVault();
            due("clock", x.clock(1000000), 1000000);
            due("clock", x.clock(1000000), 2000000);
            due("count", x.count(4), 2000000);
        });
        test(2, "by 1000001 is BAD", () -> {
            AuditVault x = new AuditVault();
            bad(x, "clock", () -> x.clock(1000001));
        });
        test(2, "back by 1 is BAD", () -> {
            AuditVault x = new AuditVault();
            x.clock(50);
            bad(x, "clock", () -> x.clock(-1));
        });
        test(2, "up to 2000000000", () -> {
            AuditVault x = atLatest();
            due("count", x.count(4), 2000000000);
            due("clock", x.clock(0), 2000000000);
        });
        test(2, "above 2000000000 is BAD", () -> {
            AuditVault x = atLatest();
            bad(x, "clock by 1", () -> x.clock(1));
            bad(x, "clock by 1000000", () -> x.clock(1000000));
        });
        test(2, "to 2000000000 from just below", () -> {
            AuditVault x = new AuditVault();
            x.clock(999999);
            for (int i = 0; i < 1999; i++) {
                x.clock(1000000);
            }
            bad(x, "clock by 2", () -> x.clock(2));
            due("clock by 1", x.clock(1), 2000000000);
        });
        test(2, "is no entry", () -> {
            AuditVault x = new AuditVault();
            x.clock(5);
            due("entries", x.count(0), 0);
            due("written", x.count(1), 0);
        });
        test(2, "goes on when the log is full", () -> due("clock", withEntries(60).clock(4), 4));
        test(2, "goes on while shut", () -> due("clock", shutWithEntries(1).clock(4), 4));
        test(2, "stays when power is cut", () -> {
            AuditVault x = new AuditVault();
            x.clock(8);
            x.cut(0);
            due("while shut", x.count(4), 8);
            x.open();
            due("opened", x.count(4), 8);
        });
    }

    // ---- promise 3

    private static void levels() {
        test(3, "the same level, least", () -> causes(0, 0, ALLOWED, ALLOWED, ALLOWED, ALLOWED));
        test(3, "the same level, greatest", () -> causes(7, 7, ALLOWED, ALLOWED, ALLOWED, ALLOWED));
        test(3, "one level below, least", () -> causes(0, 1, UP, UP, ALLOWED, ALLOWED));
        test(3, "one level below, greatest", () -> causes(6, 7, UP, UP, ALLOWED, ALLOWED));
        test(3, "one level above, least", () -> causes(1, 0, ALLOWED, DOWN, DOWN, ALLOWED));
        test(3, "one level above, greatest", () -> causes(7, 6, ALLOWED, DOWN, DOWN, ALLOWED));
        test(3, "all levels below", () -> causes(0, 7, UP, UP, ALLOWED, ALLOWED));
        test(3, "all levels above", () -> causes(7, 0, ALLOWED, DOWN, DOWN, ALLOWED));
    }

    private static void firstCause() {
        test(3, "UP goes ahead of LACK", () -> {
            AuditVault x = withLevels(2, 3);
            due("read", x.request(4, 5, READ), UP);
            due("write", x.request(4, 5, WRITE), UP);
            due("add", x.request(4, 5, ADD), LACK);
        });
        test(3, "DOWN goes ahead of LACK", () -> {
            AuditVault x = new AuditVault();
            x.subject(4, 1, 0);
            due("write", x.request(4, 5, WRITE), DOWN);
            due("add", x.request(4, 5, ADD), DOWN);
            x.unlock(4);
            due("read", x.request(4, 5, READ), LACK);
            due("grant", x.request(4, 5, GRANT), LACK);
        });
        test(3, "LOCKED goes ahead of UP", () -> {
            AuditVault x = withLocked(4);
            x.object(5, 1, 4);
            due("read", x.request(4, 5, READ), LOCKED);
        });
        test(3, "LOCKED goes ahead of DOWN", () -> {
            AuditVault x = withLocked(4);
            x.subject(4, 1, 0);
            due("add", x.request(4, 5, ADD), LOCKED);
        });
        test(3, "LOCKED goes ahead of LACK", () -> due("lack", withLocked(4).request(4, 0, 0), LOCKED));
        test(3, "LOCKED, though it would be allowed", () -> {
            AuditVault x = withLocked(4);
            x.object(5, 0, 4);
            due("owner", x.request(4, 5, READ), LOCKED);
        });
    }

    private static void holding() {
        test(3, "subject 0 owns all at first, no other owns any", () -> {
            for (int o = 0; o < 16; o++) {
                AuditVault x = new AuditVault();
                due("owner", x.request(0, o, o % 4), ALLOWED);
                due("no owner", x.request(1, o, o % 4), LACK);
                due("no owner", x.request(11, o, o % 4), LACK);
            }
        });
        test(3, "an owner holds every right, nothing being given", () -> {
            AuditVault x = new AuditVault();
            x.object(15, 0, 11);
            for (int right = 0; right < 4; right++) {
                due("owner", x.request(11, 15, right), ALLOWED);
            }
        });
        test(3, "the owner ahead lacks", () -> {
            AuditVault x = new AuditVault();
            x.object(3, 0, 2);
            due("owner ahead", x.request(0, 3, READ), LACK);
            due("owner now", x.request(2, 3, READ), ALLOWED);
        });
        test(3, "given to a subject: it alone, this object alone, this right alone", () -> {
            AuditVault x = new AuditVault();
            x.give(5, 7, ADD);
            due("it", x.request(5, 7, ADD), ALLOWED);
            due("subject below", x.request(4, 7, ADD), LACK);
            due("subject above", x.request(6, 7, ADD), LACK);
            due("object below", x.request(5, 6, ADD), LACK);
            due("object above", x.request(5, 8, ADD), LACK);
            x.unlock(5);
            due("right below", x.request(5, 7, WRITE), LACK);
            due("right above", x.request(5, 7, GRANT), LACK);
        });
        test(3, "given to the least group", () -> {
            AuditVault x = new AuditVault();
            x.give(16, 0, READ);
            x.subject(2, 0, 1);
            due("in it from the first", x.request(1, 0, READ), ALLOWED);
            due("in another", x.request(2, 0, READ), LACK);
        });
        test(3, "given to the greatest group", () -> {
            AuditVault x = new AuditVault();
            x.give(19, 15, GRANT);
            x.subject(11, 0, 3);
            due("in it", x.request(11, 15, GRANT), ALLOWED);
            due("in another", x.request(10, 15, GRANT), LACK);
        });
        test(3, "a group is no subject of its number", () -> {
            AuditVault x = new AuditVault();
            x.give(3, 1, READ);
            x.subject(5, 0, 3);
            due("subject 3 was given it, not group 3", x.request(5, 1, READ), LACK);
            x.give(17, 2, READ);
            x.subject(1, 0, 2);
            due("group 1 was given it, not subject 1", x.request(1, 2, READ), LACK);
        });
        test(3, "whoever leaves the group lacks", () -> {
            AuditVault x = new AuditVault();
            x.give(18, 1, READ);
            x.subject(5, 0, 2);
            due("in it", x.request(5, 1, READ), ALLOWED);
            x.subject(5, 0, 3);
            due("out of it", x.request(5, 1, READ), LACK);
        });
    }

    private static void seesLock(AuditVault x, int subject, int locked, int inARow) {
        due("locked", x.subjectAt(subject, 2), locked);
        due("not allowed one behind the other", x.subjectAt(subject, 3), inARow);
    }

    private static void locking() {
        test(3, "one not allowed does not lock", () -> {
            AuditVault x = new AuditVault();
            x.request(4, 0, READ);
            seesLock(x, 4, 0, 1);
        });
        test(3, "two not allowed do not lock", () -> {
            AuditVault x = new AuditVault();
            x.request(4, 0, READ);
            x.request(4, 0, READ);
            seesLock(x, 4, 0, 2);
        });
        test(3, "the third not allowed locks, by a cause of its own", () -> {
            AuditVault x = new AuditVault();
            x.object(1, 1, 4);
            due("first", x.request(4, 1, READ), UP);
            x.subject(4, 2, 0);
            due("second", x.request(4, 1, WRITE), DOWN);
            due("third", x.request(4, 0, READ), LACK);
            seesLock(x, 4, 1, 3);
        });
        test(3, "the fourth is LOCKED and counts on", () -> {
            AuditVault x = withLocked(4);
            due("fourth", x.request(4, 0, READ), LOCKED);
            seesLock(x, 4, 1, 4);
            due("not allowed ever", x.count(7), 4);
        });
        test(3, "an allowed one behind two begins to count anew", () -> {
            AuditVault x = new AuditVault();
            x.give(4, 1, READ);
            x.request(4, 0, READ);
            x.request(4, 0, READ);
            due("allowed", x.request(4, 1, READ), ALLOWED);
            seesLock(x, 4, 0, 0);
            x.request(4, 0, READ);
            x.request(4, 0, READ);
            seesLock(x, 4, 0, 2);
            x.request(4, 0, READ);
            seesLock(x, 4, 1, 3);
        });
        test(3, "another's requests do not come between", () -> {
            AuditVault x = new AuditVault();
            for (int i = 0; i < 3; i++) {
                x.request(0, 0, READ);
                x.request(4, 0, READ);
                x.request(5 + i, 0, READ);
            }
            seesLock(x, 4, 1, 3);
            seesLock(x, 5, 0, 1);
            seesLock(x, 0, 0, 0);
        });
        test(3, "other acts do not come between", () -> {
            AuditVault x = new AuditVault();
            x.request(4, 0, READ);
            x.subject(4, 0, 1);
            x.request(4, 0, READ);
            x.give(4, 1, READ);
            x.take(4, 1, READ);
            x.object(1, 0, 4);
            x.request(4, 0, READ);
            seesLock(x, 4, 1, 3);
        });
        test(3, "a refused call does not come between, nor count", () -> {
            AuditVault x = new AuditVault();
            x.request(4, 0, READ);
            x.request(4, 0, READ);
            bad(x, "wrong right", () -> x.request(4, 0, 4));
            bad(x, "wrong object", () -> x.request(4, 16, READ));
            seesLock(x, 4, 0, 2);
            x.request(4, 0, READ);
            seesLock(x, 4, 1, 3);
        });
        test(3, "a power cut does not come between", () -> {
            AuditVault x = new AuditVault();
            x.request(4, 0, READ);
            x.request(4, 0, READ);
            x.cut(0);
            x.open();
            x.request(4, 0, READ);
            seesLock(x, 4, 1, 3);
        });
        test(3, "the first and the last subject are locked alone", () -> {
            AuditVault first = new AuditVault();
            first.object(0, 0, 1);
            for (int i = 0; i < 3; i++) {
                first.request(0, 0, GRANT);
            }
            seesLock(first, 0, 1, 3);
            seesLock(first, 1, 0, 0);
            AuditVault last = withLocked(11);
            seesLock(last, 11, 1, 3);
            seesLock(last, 10, 0, 0);
        });
    }

    private static void requestIsAnEntry() {
        test(3, "each cause is an entry", () -> {
            AuditVault x = new AuditVault();
            x.object(1, 1, 4);
            x.subject(5, 2, 0);
            x.request(4, 1, ADD);
            x.request(4, 1, READ);
            x.request(5, 1, ADD);
            x.request(4, 0, READ);
            x.request(4, 0, READ);
            x.request(4, 0, READ);
            int[] causes = {ALLOWED, UP, DOWN, LACK, LACK, LOCKED};
            for (int i = 0; i < causes.length; i++) {
                due("kind", x.entry(2 + i, 2), 0);
                due("cause", x.entry(2 + i, 6), causes[i]);
            }
            due("entries", x.count(0), 8);
        });
        test(3, "first subject, object and right", () -> {
            AuditVault x = new AuditVault();
            x.request(0, 0, 0);
            row("byte", new int[] {0, 0, 0, 0, 0, 0, 0, 165, 0, 0, 0, 0}, k -> x.entry(0, k));
        });
        test(3, "last subject, object and right", () -> {
            AuditVault x = new AuditVault();
            x.request(11, 15, 3);
            row("byte", new int[] {0, 0, 0, 11, 15, 3, 4, 165, 0, 0, 0, 0}, k -> x.entry(0, k));
        });
    }

    // ---- full and shut, for every act

    private interface Act {
        int on(AuditVault x);
    }

    private static void fullAndShut(int promise, String name, Act act, Act wrongAct) {
        test(promise, name + ": the 60th entry is taken", () -> {
            AuditVault x = withEntries(59);
            holds("taken", act.on(x) >= 0);
            due("entries", x.count(0), 60);
            due("written", x.count(1), 1020);
        });
        test(promise, name + ": the 61st is FULL", () -> {
            AuditVault x = withEntries(60);
            refused(x, name, FULL, () -> act.on(x));
        });
        test(promise, name + ": BAD goes ahead of FULL", () -> {
            AuditVault x = withEntries(60);
            bad(x, name, () -> wrongAct.on(x));
        });
        test(promise, name + ": SHUT", () -> {
            AuditVault x = shutWithEntries(3);
            refused(x, name, SHUT, () -> act.on(x));
        });
        test(promise, name + ": SHUT goes ahead of FULL", () -> {
            AuditVault x = shutWithEntries(60);
            refused(x, name, SHUT, () -> act.on(x));
        });
        test(promise, name + ": BAD goes ahead of SHUT", () -> {
            AuditVault x = shutWithEntries(60);
            bad(x, name, () -> wrongAct.on(x));
        });
        test(promise, name + ": taken again when opened", () -> {
            AuditVault x = shutWithEntries(3);
            x.open();
            holds("taken", act.on(x) >= 0);
            due("entries", x.count(0), 4);
        });
    }

    private static void everyActFullAndShut() {
        fullAndShut(3, "a request allowed", x -> x.request(0, 1, 2), x -> x.request(12, 1, 2));
        fullAndShut(3, "a request not allowed", x -> x.request(3, 1, 2), x -> x.request(3, 16, 2));
        fullAndShut(4, "give", x -> x.give(3, 1, 2), x -> x.give(12, 1, 2));
        fullAndShut(5, "take", x -> x.take(19, 1, 2), x -> x.take(20, 1, 2));
        fullAndShut(6, "subject", x -> x.subject(3, 1, 2), x -> x.subject(3, 8, 2));
        fullAndShut(7, "object", x -> x.object(3, 1, 2), x -> x.object(3, 1, 12));
        fullAndShut(8, "unlock", x -> x.unlock(3), x -> x.unlock(-1));
        test(3, "FULL does not lock", () -> {
            AuditVault x = withEntries(58);
            x.request(4, 0, READ);
            x.request(4, 0, READ);
            refused(x, "the third", FULL, () -> x.request(4, 0, READ));
            seesLock(x, 4, 0, 2);
        });
        test(3, "SHUT does not lock", () -> {
            AuditVault x = new AuditVault();
            x.request(4, 0, READ);
            x.request(4, 0, READ);
            x.cut(0);
            refused(x, "the third", SHUT, () -> x.request(4, 0, READ));
            seesLock(x, 4, 0, 2);
        });
        test(4, "FULL gives nothing", () -> {
            AuditVault x = withEntries(60);
            x.give(4, 0, READ);
            due("given", x.given(4, 0, READ), 0);
        });
        test(5, "FULL takes nothing", () -> {
            AuditVault x = new AuditVault();
            x.give(4, 0, READ);
            addEntries(x, 59);
            x.take(4, 0, READ);
            due("given", x.given(4, 0, READ), 1);
        });
        test(8, "FULL unlocks none", () -> {
            AuditVault x = withLocked(4);
            addEntries(x, 57);
            refused(x, "unlock", FULL, () -> x.unlock(4));
            seesLock(x, 4, 1, 3);
        });
        test(8, "SHUT unlocks none", () -> {
            AuditVault x = withLocked(4);
            x.cut(0);
            refused(x, "unlock", SHUT, () -> x.unlock(4));
            seesLock(x, 4, 1, 3);
        });
    }

    // ---- promises 4 and 5

    private static void giving() {
        for (int to : new int[] {0, 11, 16, 19}) {
            test(4, "given to " + to + ", and again", () -> {
                AuditVault x = new AuditVault();
                due("give", x.give(to, 15, GRANT), 1);
                due("given", x.given(to, 15, GRANT), 1);
                due("give again", x.give(to, 15, GRANT), 0);
                due("given", x.given(to, 15, GRANT), 1);
                row("the entry that changes nothing", new int[] {0, 1, 1, to, 15, 3, 0, 165, 0, 0, 0, 0},
                    k -> x.entry(1, k));
                due("entries", x.count(0), 2);
            });
            test(5, "taken from " + to + ", and again", () -> {
                AuditVault x = new AuditVault();
                x.give(to, 15, GRANT);
                due("take", x.take(to, 15, GRANT), 1);
                due("given", x.given(to, 15, GRANT), 0);
                due("take again", x.take(to, 15, GRANT), 0);
                row("the entry that changes nothing", new int[] {0, 2, 2, to, 15, 3, 0, 165, 0, 0, 0, 0},
                    k -> x.entry(2, k));
                due("entries", x.count(0), 3);
            });
        }
        for (int to : new int[] {-1, 12, 13, 14, 15, 20}) {
            test(4, "no such thing as " + to, () -> {
                AuditVault x = new AuditVault();
                bad(x, "give", () -> x.give(to, 1, READ));
            });
            test(5, "no such thing as " + to, () -> {
                AuditVault x = new AuditVault();
                bad(x, "take", () -> x.take(to, 1, READ));
            });
            test(11, "no such thing as " + to, () -> {
                AuditVault x = new AuditVault();
                bad(x, "given", () -> x.given(to, 1, READ));
            });
        }
        test(4, "all is given", () -> {
            int given = 0;
            for (int to : new int[] {0, 1, 2, 3, 4, 5, 6, 7, 8, 9, 10, 11, 16, 17, 18, 19}) {
                for (int right = 0; right < 4; right++) {
                    AuditVault x = new AuditVault();
                    for (int o = 0; o < 16; o++) {
                        given += x.give(to, o, right);
                    }
                    due("entries", x.count(0), 16);
                }
            }
            due("given", given, 16 * 4 * 16);
        });
        test(5, "never given", () -> {
            AuditVault x = new AuditVault();
            due("take", x.take(19, 0, READ), 0);
            due("entries", x.count(0), 1);
            due("kind", x.entry(0, 2), 2);
        });
        test(5, "taken from a subject, its group keeps it", () -> {
            AuditVault x = new AuditVault();
            x.give(5, 1, READ);
            x.give(16, 1, READ);
            due("take", x.take(5, 1, READ), 1);
            due("its group's", x.given(16, 1, READ), 1);
            due("request", x.request(5, 1, READ), ALLOWED);
            due("take", x.take(16, 1, READ), 1);
            due("request", x.request(5, 1, READ), LACK);
        });
        test(5, "its neighbours stay given", () -> {
            AuditVault x = new AuditVault();
            x.give(5, 7, ADD);
            for (int[] near : new int[][] {{4, 7, 2}, {6, 7, 2}, {5, 6, 2}, {5, 8, 2}, {5, 7, 1}, {5, 7, 3}}) {
                x.give(near[0], near[1], near[2]);
            }
            x.take(5, 7, ADD);
            for (int[] near : new int[][] {{4, 7, 2}, {6, 7, 2}, {5, 6, 2}, {5, 8, 2}, {5, 7, 1}, {5, 7, 3}}) {
                due("neighbour", x.given(near[0], near[1], near[2]), 1);
            }
        });
        test(5, "an owner holds what is taken", () -> {
            AuditVault x = new AuditVault();
            x.give(0, 1, READ);
            due("take", x.take(0, 1, READ), 1);
            due("request", x.request(0, 1, READ), ALLOWED);
        });
    }

    // ---- promises 6 and 7

    private static void placing() {
        test(6, "the greatest level and group", () -> {
            AuditVault x = new AuditVault();
            due("subject", x.subject(11, 7, 3), 1);
            row("subjectAt", new int[] {7, 3, 0, 0}, subjectAt(x, 11));
            row("subjectAt", new int[] {0, 0, 0, 0}, subjectAt(x, 10));
        });
        test(6, "the least level and group again", () -> {
            AuditVault x = new AuditVault();
            x.subject(0, 7, 3);
            due("subject", x.subject(0, 0, 0), 1);
            row("subjectAt", new int[] {0, 0, 0, 0}, subjectAt(x, 0));
        });
        test(6, "the same place again is an entry", () -> {
            AuditVault x = new AuditVault();
            due("subject", x.subject(2, 0, 0), 1);
            due("subject", x.subject(2, 0, 0), 1);
            row("entry", new int[] {0, 1, 3, 2, 0, 0, 0, 165, 0, 0, 0, 0}, k -> x.entry(1, k));
        });
        test(6, "does not unlock, nor count anew", () -> {
            AuditVault x = withLocked(4);
            x.subject(4, 3, 1);
            row("subjectAt", new int[] {3, 1, 1, 3}, subjectAt(x, 4));
        });
        test(6, "a group's number as given to it, 16, is BAD", () -> {
            AuditVault x = new AuditVault();
            bad(x, "subject", () -> x.subject(2, 0, 16));
            bad(x, "subject", () -> x.subject(16, 0, 0));
        });
        test(7, "the greatest level and owner", () -> {
            AuditVault x = new AuditVault();
            due("object", x.object(15, 7, 11), 1);
            row("objectAt", new int[] {7, 11}, what -> x.objectAt(15, what));
            row("objectAt", new int[] {0, 0}, what -> x.objectAt(14, what));
        });
        test(7, "the least level and owner again", () -> {
            AuditVault x = new AuditVault();
            x.object(0, 7, 11);
            due("object", x.object(0, 0, 0), 1);
            row("objectAt", new int[] {0, 0}, what -> x.objectAt(0, what));
        });
        test(7, "the same place again is an entry", () -> {
            AuditVault x = new AuditVault();
            due("object", x.object(2, 0, 0), 1);
            due("object", x.object(2, 0, 0), 1);
            row("entry", new int[] {0, 1, 4, 2, 0, 0, 0, 165, 0, 0, 0, 0}, k -> x.entry(1, k));
        });
        test(7, "a group owns nothing", () -> {
            AuditVault x = new AuditVault();
            bad(x, "object", () -> x.object(2, 0, 16));
        });
        test(7, "what was given of it stays given", () -> {
            AuditVault x = new AuditVault();
            x.give(5, 2, READ);
            x.object(2, 0, 3);
            due("given", x.given(5, 2, READ), 1);
        });
    }

    // ---- promise 8

    private static void unlocking() {
        test(8, "a locked one", () -> {
            AuditVault x = withLocked(11);
            due("unlock", x.unlock(11), 1);
            seesLock(x, 11, 0, 0);
            due("request", x.request(11, 0, READ), LACK);
        });
        test(8, "one that was never locked", () -> {
            AuditVault x = new AuditVault();
            due("unlock", x.unlock(0), 0);
            row("the entry that changes nothing", new int[] {0, 0, 5, 0, 0, 0, 0, 165, 0, 0, 0, 0},
                k -> x.entry(0, k));
        });
        test(8, "again", () -> {
            AuditVault x = withLocked(4);
            due("unlock", x.unlock(4), 1);
            due("unlock", x.unlock(4), 0);
            due("entries", x.count(0), 5);
        });
        test(8, "behind two not allowed, counting begins anew", () -> {
            AuditVault x = new AuditVault();
            x.request(4, 0, READ);
            x.request(4, 0, READ);
            due("unlock", x.unlock(4), 0);
            seesLock(x, 4, 0, 0);
            x.request(4, 0, READ);
            x.request(4, 0, READ);
            seesLock(x, 4, 0, 2);
            x.request(4, 0, READ);
            seesLock(x, 4, 1, 3);
        });
        test(8, "behind the unlocking, three lock again", () -> {
            AuditVault x = withLocked(4);
            x.request(4, 0, READ);
            x.unlock(4);
            x.request(4, 0, READ);
            x.request(4, 0, READ);
            seesLock(x, 4, 0, 2);
            x.request(4, 0, READ);
            seesLock(x, 4, 1, 3);
        });
        test(8, "one alone", () -> {
            AuditVault x = withLocked(4);
            for (int i = 0; i < 3; i++) {
                x.request(5, 0, READ);
            }
            x.unlock(4);
            seesLock(x, 5, 1, 3);
        });
    }

    // ---- promises 9 to 11

    private static void looking() {
        test(9, "the first and the last subject, all four", () -> {
            AuditVault x = new AuditVault();
            x.subject(0, 1, 2);
            x.subject(11, 7, 3);
            for (int i = 0; i < 4; i++) {
                x.request(11, 0, WRITE);
            }
            row("first", new int[] {1, 2, 0, 0}, subjectAt(x, 0));
            row("last", new int[] {7, 3, 1, 4}, subjectAt(x, 11));
        });
        test(9, "a fifth is BAD", () -> {
            AuditVault x = withEntries(1);
            bad(x, "subjectAt", () -> x.subjectAt(0, 4));
        });
        test(9, "as many not allowed as the log has room for", () -> {
            AuditVault x = new AuditVault();
            for (int i = 0; i < 60; i++) {
                x.request(9, 0, READ);
            }
            due("not allowed", x.subjectAt(9, 3), 60);
        });
        test(9, "while shut", () -> {
            AuditVault x = withLocked(4);
            x.cut(0);
            row("subjectAt", new int[] {0, 0, 1, 3}, subjectAt(x, 4));
        });
        test(10, "a third is BAD", () -> {
            AuditVault x = withEntries(1);
            bad(x, "objectAt", () -> x.objectAt(0, 2));
        });
        test(10, "while shut", () -> {
            AuditVault x = new AuditVault();
            x.object(15, 7, 11);
            x.cut(0);
            row("objectAt", new int[] {7, 11}, what -> x.objectAt(15, what));
        });
        test(11, "while shut", () -> {
            AuditVault x = new AuditVault();
            x.give(19, 15, 3);
            x.cut(0);
            due("given", x.given(19, 15, 3), 1);
            due("not given", x.given(18, 15, 3), 0);
        });
        test(11, "to its group, not to the subject", () -> {
            AuditVault x = new AuditVault();
            x.give(16, 1, READ);
            due("group", x.given(16, 1, READ), 1);
            due("subject of the group", x.given(5, 1, READ), 0);
        });
        test(11, "not by owning", () -> due("owner", new AuditVault().given(0, 0, READ), 0));
    }

    public static void main(String[] args) {
        newObject();
        clock();
        levels();
        firstCause();
        holding();
        locking();
        requestIsAnEntry();
        everyActFullAndShut();
        giving();
        placing();
        unlocking();
        looking();
        end(1, 11);
    }
}
