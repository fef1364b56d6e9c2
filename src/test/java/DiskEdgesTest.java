import java.math.BigInteger;

/** The boundary cases that the document names for the disk, hash, count and digest (promises 25 to 33, part 5). */
public final class DiskEdgesTest extends Cases {
    private DiskEdgesTest() { }

    private static void counts(AuditVault x, int entries, int written, int safe, int shut) {
        row("count", new int[] {entries, written, safe, shut}, x::count);
    }

    private static void zeroFrom(AuditVault x, int start) {
        for (int i = start; i < 1020; i++) {
            due("disk " + i, x.disk(i), 0);
        }
    }

    private static void framesAre(AuditVault x, Model model, int frames) {
        for (int i = 0; i < frames; i++) {
            int place = i;
            bytes("frame " + i + ", byte", Model.frameOf(model.log, i), k -> x.disk(17 * place + k));
        }
    }

    // ---- promise 25

    private static void sync() {
        test(25, "no bytes written", () -> {
            AuditVault x = new AuditVault();
            due("sync", x.sync(), 0);
            counts(x, 0, 0, 0, 0);
        });
        test(25, "one frame", () -> {
            AuditVault x = withEntries(1);
            counts(x, 1, 17, 0, 0);
            due("sync", x.sync(), 17);
            counts(x, 1, 17, 17, 0);
        });
        test(25, "again, nothing having come", () -> {
            AuditVault x = withEntries(1);
            x.sync();
            due("sync", x.sync(), 17);
        });
        test(25, "again, one having come", () -> {
            AuditVault x = withEntries(1);
            x.sync();
            addEntries(x, 1);
            counts(x, 2, 34, 17, 0);
            due("sync", x.sync(), 34);
        });
        test(25, "all 1020 bytes", () -> {
            AuditVault x = withEntries(60);
            due("sync", x.sync(), 1020);
            counts(x, 60, 1020, 1020, 0);
        });
        test(25, "SHUT", () -> {
            AuditVault x = shutWithEntries(2);
            refused(x, "sync", SHUT, x::sync);
        });
        test(25, "SHUT, no bytes being written", () -> {
            AuditVault x = shutWithEntries(0);
            refused(x, "sync", SHUT, x::sync);
        });
        test(25, "opened again", () -> {
            AuditVault x = shutWithEntries(2);
            x.open();
            due("sync", x.sync(), 34);
        });
    }

    // ---- promise 26

    /** Two frames that are safe, two that are not. */
    private static AuditVault halfSafe() {
        AuditVault x = withEntries(2);
        x.sync();
        x.request(0, 2, 2);
        x.request(0, 3, 3);
        return x;
    }

    private static void cutsTo(int n, int wantStaying, int wantEntries) {
        AuditVault x = halfSafe();
        due("cut " + n, x.cut(n), wantStaying);
        counts(x, 0, wantStaying, 34, 1);
        byte[] frames = new byte[68];
        for (int i = 0; i < 4; i++) {
            System.arraycopy(Model.frameOf(modelWithEntries(4).log, i), 0, frames, 17 * i, 17);
        }
        for (int i = 0; i < wantStaying; i++) {
            due("stays " + i, x.disk(i), frames[i] & 255);
        }
        zeroFrom(x, wantStaying);
        due("open", x.open(), wantEntries);
        counts(x, wantEntries, 17 * wantEntries, 17 * wantEntries, 0);
        zeroFrom(x, 17 * wantEntries);
    }

    private static void cut() {
        test(26, "none that is not safe stays", () -> cutsTo(0, 34, 2));
        test(26, "one byte stays", () -> cutsTo(1, 35, 2));
        test(26, "all of a frame but one byte stay", () -> cutsTo(16, 50, 2));
        test(26, "a frame stays", () -> cutsTo(17, 51, 3));
        test(26, "a frame and a byte stay", () -> cutsTo(18, 52, 3));
        test(26, "all but one stay", () -> cutsTo(33, 67, 3));
        test(26, "all stay, just as many", () -> cutsTo(34, 68, 4));
        test(26, "all stay, they are fewer by one", () -> cutsTo(35, 68, 4));
        test(26, "all stay, 1020", () -> cutsTo(1020, 68, 4));
        test(26, "no bytes written", () -> {
            for (int n : new int[] {0, 1, 1020}) {
                AuditVault x = new AuditVault();
                due("cut " + n, x.cut(n), 0);
                counts(x, 0, 0, 0, 1);
                due("open", x.open(), 0);
            }
        });
        test(26, "no bytes safe", () -> {
            AuditVault x = withEntries(2);
            due("cut", x.cut(0), 0);
            zeroFrom(x, 0);
            due("open", x.open(), 0);
        });
        test(26, "all bytes safe", () -> {
            AuditVault x = withEntries(2);
            x.sync();
            due("cut", x.cut(0), 34);
            due("open", x.open(), 2);
        });
        test(26, "a full disk, all safe", () -> {
            AuditVault x = withEntries(60);
            x.sync();
            due("cut", x.cut(0), 1020);
            due("open", x.open(), 60);
        });
        test(26, "a full disk, none safe, all stay", () -> {
            AuditVault x = withEntries(60);
            due("cut", x.cut(1020), 1020);
            due("open", x.open(), 60);
        });
        test(26, "a full disk, none safe, all but one stay", () -> {
            AuditVault x = withEntries(60);
            due("cut", x.cut(1019), 1019);
            due("last byte", x.disk(1019), 0);
            due("open", x.open(), 59);
        });
        test(26, "a full disk, none safe, none stays", () -> {
            AuditVault x = withEntries(60);
            due("cut", x.cut(0), 0);
            zeroFrom(x, 0);
            due("open", x.open(), 0);
        });
        refusedCuts();
        cutsOfSpoiltBytes();
    }

    private static void refusedCuts() {
        test(26, "-1 is BAD", () -> {
            AuditVault x = halfSafe();
            bad(x, "cut", () -> x.cut(-1));
        });
        test(26, "1021 is BAD", () -> {
            AuditVault x = halfSafe();
            bad(x, "cut", () -> x.cut(1021));
        });
        test(26, "SHUT", () -> {
            AuditVault x = halfSafe();
            x.cut(20);
            refused(x, "cut 0", SHUT, () -> x.cut(0));
            refused(x, "cut 1020", SHUT, () -> x.cut(1020));
        });
        test(26, "BAD goes ahead of SHUT", () -> {
            AuditVault x = halfSafe();
            x.cut(20);
            bad(x, "cut -1", () -> x.cut(-1));
            bad(x, "cut 1021", () -> x.cut(1021));
        });
    }

    /** As the words say: a byte that was never written is one of those that are not safe. */
    private static void cutsOfSpoiltBytes() {
        test(26, "a spoilt byte that is safe stays spoilt", () -> {
            AuditVault x = halfSafe();
            x.spoil(33, 255);
            int spoilt = x.disk(33);
            x.cut(0);
            due("disk", x.disk(33), spoilt);
        });
        test(26, "a spoilt byte never written, the last that stays", () -> {
            AuditVault x = halfSafe();
            x.spoil(34 + 99, 3);
            due("cut", x.cut(100), 68);
            due("disk", x.disk(34 + 99), 3);
        });
        test(26, "a spoilt byte never written, the first that does not stay", () -> {
            AuditVault x = halfSafe();
            x.spoil(34 + 100, 3);
            due("cut", x.cut(100), 68);
            due("disk", x.disk(34 + 100), 0);
        });
        test(26, "a spoilt byte, the last of the disk", () -> {
            AuditVault x = halfSafe();
            x.spoil(1019, 3);
            due("cut", x.cut(985), 68);
            due("disk", x.disk(1019), 0);
            AuditVault all = halfSafe();
            all.spoil(1019, 3);
            due("cut", all.cut(986), 68);
            due("disk", all.disk(1019), 3);
        });
    }

    // ---- promise 27

    private static void open() {
        test(27, "NOT: a new one is not shut", () -> {
            AuditVault x = new AuditVault();
            refused(x, "open", NOT, x::open);
        });
        test(27, "NOT: opened already", () -> {
            AuditVault x = shutWithEntries(2);
            due("open", x.open(), 2);
            refused(x, "open", NOT, x::open);
        });
        test(27, "NOT: a full log", () -> {
            AuditVault x = withEntries(60);
            refused(x, "open", NOT, x::open);
        });
        test(27, "no bytes written", () -> {
            AuditVault x = shutWithEntries(0);
            due("open", x.open(), 0);
            counts(x, 0, 0, 0, 0);
            due("request", x.request(0, 0, 0), 0);
        });
        test(27, "60 entries, and full again", () -> {
            AuditVault x = withEntries(60);
            due("open", reopen(x), 60);
            counts(x, 60, 1020, 1020, 0);
            framesAre(x, modelWithEntries(60), 60);
            refused(x, "request", FULL, () -> x.request(0, 0, 0));
        });
        test(27, "59 entries: one more is taken, then it is full", () -> {
            AuditVault x = withEntries(60);
            x.cut(1019);
            due("open", x.open(), 59);
            due("request", x.request(0, 59 % 16, 59 % 4), 0);
            framesAre(x, modelWithEntries(60), 60);
            refused(x, "request", FULL, () -> x.request(0, 0, 0));
        });
        test(27, "entries, chain and root as they were", () -> {
            AuditVault x = withEntries(9);
            reopen(x);
            Model model = modelWithEntries(9);
            for (int i = 0; i < 9; i++) {
                int entry = i;
                bytes("entry " + i + ", byte", model.log.get(i), k -> x.entry(entry, k));
            }
            bytes("chain, byte", Model.chainOf(model.log, 9), k -> x.chain(9, k));
            bytes("root, byte", Model.rootOf(model.log), k -> x.root(9, k));
        });
        test(27, "the monitor stays, though its entries are lost", () -> {
            AuditVault x = new AuditVault();
            x.subject(4, 3, 2);
            x.object(5, 3, 4);
            x.give(7, 5, 1);
            x.request(4, 5, 0);
            for (int i = 0; i < 3; i++) {
                x.request(9, 0, 0);
            }
            x.cut(0);
            due("open", x.open(), 0);
            row("subject 4", new int[] {3, 2, 0, 0}, what -> x.subjectAt(4, what));
            row("subject 9", new int[] {0, 0, 1, 3}, what -> x.subjectAt(9, what));
            row("object 5", new int[] {3, 4}, what -> x.objectAt(5, what));
            due("given", x.given(7, 5, 1), 1);
            due("allowed", x.count(6), 1);
            due("not allowed", x.count(7), 3);
        });
        wrongFrames();
        oddFrames();
    }

    private static void wrongFrames() {
        for (int k = 0; k < 17; k++) {
            int spoilt = k;
            test(27, "byte " + k + " of the first frame is wrong", () -> {
                AuditVault x = withEntries(3);
                x.sync();
                x.spoil(spoilt, 1);
                x.cut(0);
                due("open", x.open(), 0);
                counts(x, 0, 0, 0, 0);
                zeroFrom(x, 0);
            });
            test(27, "byte " + k + " of the last frame of a full disk is wrong", () -> {
                AuditVault x = withEntries(60);
                x.sync();
                x.spoil(59 * 17 + spoilt, 128);
                x.cut(0);
                due("open", x.open(), 59);
                counts(x, 59, 1003, 1003, 0);
                zeroFrom(x, 1003);
            });
        }
        test(27, "right frames behind a wrong one are lost", () -> {
            AuditVault x = withEntries(5);
            x.sync();
            x.spoil(34, 1);
            x.cut(0);
            due("open", x.open(), 2);
            zeroFrom(x, 34);
            framesAre(x, modelWithEntries(2), 2);
        });
        test(27, "spoilt while shut", () -> {
            AuditVault x = shutWithEntries(5);
            x.spoil(84, 1);
            due("open", x.open(), 4);
        });
        test(27, "spoilt, and back", () -> {
            AuditVault x = shutWithEntries(5);
            x.spoil(3, 1);
            x.spoil(3, 1);
            due("open", x.open(), 5);
        });
        test(27, "bytes spoilt behind the last frame are 0", () -> {
            AuditVault x = withEntries(2);
            x.spoil(34, 90);
            x.spoil(1019, 7);
            due("open", reopen(x), 2);
            zeroFrom(x, 34);
        });
    }

    /** Spoils 17 bytes of the disk till they are these. */
    private static void write(AuditVault x, int place, byte[] frame) {
        for (int k = 0; k < 17; k++) {
            int mask = x.disk(17 * place + k) ^ frame[k] & 255;
            if (mask != 0) {
                x.spoil(17 * place + k, mask);
            }
        }
    }

    private static void oddFrames() {
        test(27, "a number that is not that of its place, the chain being right", () -> {
            for (int number : new int[] {0, 2, 257, 65535}) {
                AuditVault x = shutWithEntries(1);
                Model model = modelWithEntries(2);
                model.log.get(1)[0] = (byte) (number >> 8);
                model.log.get(1)[1] = (byte) number;
                write(x, 1, Model.frameOf(model.log, 1));
                due("open", x.open(), 1);
            }
        });
        test(27, "the first byte is not 90, all else being right", () -> {
            AuditVault x = shutWithEntries(1);
            byte[] frame = Model.frameOf(modelWithEntries(2).log, 1);
            frame[0] = 91;
            write(x, 1, frame);
            due("open", x.open(), 1);
        });
        test(27, "a frame that was never written, but is right", () -> {
            AuditVault x = shutWithEntries(1);
            write(x, 1, Model.frameOf(modelWithEntries(2).log, 1));
            due("written", x.count(1), 17);
            due("open", x.open(), 2);
            counts(x, 2, 34, 34, 0);
            due("entry", x.entry(1, 1), 1);
        });
        test(27, "an entry that no act makes, in a frame that is right", () -> {
            AuditVault x = shutWithEntries(1);
            Model model = modelWithEntries(2);
            for (int k = 2; k < 12; k++) {
                model.log.get(1)[k] = (byte) 255;
            }
            write(x, 1, Model.frameOf(model.log, 1));
            due("open", x.open(), 2);
            bytes("entry, byte", model.log.get(1), k -> x.entry(1, k));
            bytes("root, byte", Model.rootOf(model.log), k -> x.root(2, k));
            due("audit", x.audit(), NONE);
        });
        test(27, "a frame whose last byte, 0, was lost", () -> {
            int time = 0;
            Model model = new Model();
            while (model.log.isEmpty() || Model.frameOf(model.log, 0)[16] != 0) {
                model = new Model();
                model.clock(++time);
                model.request(0, 0, 0);
            }
            AuditVault x = new AuditVault();
            x.clock(time);
            x.request(0, 0, 0);
            due("cut", x.cut(16), 16);
            due("open", x.open(), 1);
            counts(x, 1, 17, 17, 0);
        });
        test(27, "cut and opened over and over", () -> {
            AuditVault x = new AuditVault();
            for (int i = 0; i < 60; i++) {
                due("open", reopen(x), i);
                x.request(0, i % 16, i % 4);
            }
            due("open", reopen(x), 60);
            framesAre(x, modelWithEntries(60), 60);
        });
    }

    // ---- promises 28 and 29

    private static void disk() {
        test(28, "no bytes written", () -> zeroFrom(new AuditVault(), 0));
        test(28, "one frame, and nothing behind it", () -> {
            AuditVault x = withEntries(1);
            framesAre(x, modelWithEntries(1), 1);
            zeroFrom(x, 17);
        });
        test(28, "full to the last byte", () -> {
            AuditVault x = withEntries(60);
            framesAre(x, modelWithEntries(60), 60);
            due("last byte", x.disk(1019), x.chain(60, 3));
        });
        test(28, "no such byte", () -> {
            AuditVault x = withEntries(60);
            bad(x, "-1", () -> x.disk(-1));
            bad(x, "1020", () -> x.disk(1020));
        });
        test(28, "while shut", () -> framesAre(shutWithEntries(3), modelWithEntries(3), 3));
        for (int mask : new int[] {1, 128, 255}) {
            test(29, "mask " + mask + ", and back", () -> {
                AuditVault x = withEntries(2);
                Sight before = new Sight(x);
                due("spoil", x.spoil(17, mask), 90);
                due("spoilt", x.disk(17), 90 ^ mask);
                due("neighbour", x.disk(19), 1);
                due("spoil again", x.spoil(17, mask), 90 ^ mask);
                due("as it was", before.firstChange(new Sight(x)).length(), 0);
            });
        }
        test(29, "no such mask", () -> {
            AuditVault x = withEntries(2);
            bad(x, "0", () -> x.spoil(0, 0));
            bad(x, "256", () -> x.spoil(0, 256));
            bad(x, "-1", () -> x.spoil(0, -1));
        });
        test(29, "no such byte", () -> {
            AuditVault x = withEntries(60);
            bad(x, "-1", () -> x.spoil(-1, 1));
            bad(x, "1020", () -> x.spoil(1020, 1));
        });
        test(29, "the first and the last byte", () -> {
            AuditVault x = new AuditVault();
            due("first", x.spoil(0, 255), 0);
            due("last", x.spoil(1019, 255), 0);
            due("first", x.disk(0), 255);
            due("last", x.disk(1019), 255);
            due("behind the first", x.disk(1), 0);
            due("ahead of the last", x.disk(1018), 0);
        });
        test(29, "safe or not", () -> {
            AuditVault x = halfSafe();
            due("the last safe", x.spoil(33, 4), x.chain(2, 3));
            due("the first not safe", x.spoil(34, 4), 90);
            due("the last written", x.spoil(67, 4), x.chain(4, 3));
            due("the first not written", x.spoil(68, 4), 0);
            counts(x, 4, 68, 34, 0);
        });
        test(29, "while shut", () -> {
            AuditVault x = shutWithEntries(1);
            due("spoil", x.spoil(0, 255), 90);
            due("spoilt", x.disk(0), 165);
        });
        test(29, "the log itself stays", () -> {
            AuditVault x = withEntries(2);
            x.spoil(18, 255);
            due("entry", x.entry(1, 0), 0);
            bytes("chain", Model.chainOf(modelWithEntries(2).log, 2), k -> x.chain(2, k));
            bytes("root", Model.rootOf(modelWithEntries(2).log), k -> x.root(2, k));
        });
    }

    // ---- promise 30

    private static void audit() {
        test(30, "no entries", () -> due("audit", new AuditVault().audit(), NONE));
        test(30, "all as written, a full log", () -> due("audit", withEntries(60).audit(), NONE));
        for (int k = 0; k < 17; k++) {
            int spoilt = k;
            test(30, "byte " + k + " of a frame", () -> {
                AuditVault first = withEntries(3);
                first.spoil(spoilt, 1);
                due("first", first.audit(), 0);
                AuditVault last = withEntries(60);
                last.spoil(59 * 17 + spoilt, 1);
                due("last", last.audit(), 59);
            });
        }
        test(30, "the first of several", () -> {
            AuditVault x = withEntries(5);
            x.spoil(4 * 17, 1);
            x.spoil(2 * 17, 1);
            due("audit", x.audit(), 2);
        });
        test(30, "safe or not", () -> {
            AuditVault x = halfSafe();
            x.spoil(34, 1);
            due("not safe", x.audit(), 2);
            x.spoil(33, 1);
            due("safe", x.audit(), 1);
        });
        test(30, "spoilt behind the last frame", () -> {
            AuditVault x = withEntries(2);
            x.spoil(34, 255);
            x.spoil(1019, 255);
            due("audit", x.audit(), NONE);
        });
        test(30, "a frame written over spoilt bytes", () -> {
            AuditVault x = withEntries(2);
            for (int i = 34; i < 51; i++) {
                x.spoil(i, 255);
            }
            addEntries(x, 1);
            due("audit", x.audit(), NONE);
        });
        test(30, "SHUT", () -> {
            AuditVault x = shutWithEntries(2);
            refused(x, "audit", SHUT, x::audit);
        });
        test(30, "SHUT, no bytes being written", () -> {
            AuditVault x = shutWithEntries(0);
            refused(x, "audit", SHUT, x::audit);
        });
        test(30, "opened: what is wrong is gone", () -> {
            AuditVault x = withEntries(5);
            x.spoil(2 * 17, 1);
            due("open", reopen(x), 2);
            due("audit", x.audit(), NONE);
        });
        test(30, "changes nothing", () -> {
            AuditVault x = withEntries(5);
            x.spoil(2 * 17, 1);
            Sight before = new Sight(x);
            x.audit();
            due("as it was", before.firstChange(new Sight(x)).length(), 0);
        });
    }

    // ---- promise 31

    private static void hashIs(long a, long b, int n, int... of) {
        byte[] row = new byte[of.length];
        for (int i = 0; i < of.length; i++) {
            row[i] = (byte) of[i];
        }
        due("bytes", row.length, n);
        AuditVault x = new AuditVault();
        bytes("byte", Model.hashOf(row), k -> x.hash(a, b, n, k));
    }

    private static void hash() {
        long a = 0x0102030405060708L;
        long b = 0x090a0b0c0d0e0f10L;
        test(31, "no bytes", () -> hashIs(a, b, 0));
        test(31, "no bytes, of longs that are 0 or not", () ->
            due("the same", new AuditVault().hash(0, 0, 0, 0), new AuditVault().hash(a, b, 0, 0)));
        test(31, "one byte, the highest of a", () -> hashIs(a, b, 1, 1));
        test(31, "seven bytes", () -> hashIs(a, b, 7, 1, 2, 3, 4, 5, 6, 7));
        test(31, "all of a", () -> hashIs(a, b, 8, 1, 2, 3, 4, 5, 6, 7, 8));
        test(31, "all of a, the highest of b", () -> hashIs(a, b, 9, 1, 2, 3, 4, 5, 6, 7, 8, 9));
        test(31, "15 bytes", () -> hashIs(a, b, 15, 1, 2, 3, 4, 5, 6, 7, 8, 9, 10, 11, 12, 13, 14, 15));
        test(31, "16 bytes", () -> hashIs(a, b, 16, 1, 2, 3, 4, 5, 6, 7, 8, 9, 10, 11, 12, 13, 14, 15, 16));
        test(31, "17 bytes are BAD", () -> {
            AuditVault x = new AuditVault();
            bad(x, "hash", () -> x.hash(a, b, 17, 0));
        });
        test(31, "-1 bytes are BAD", () -> {
            AuditVault x = new AuditVault();
            bad(x, "hash", () -> x.hash(a, b, -1, 0));
        });
        test(31, "byte 32 is BAD, byte -1 too", () -> {
            AuditVault x = new AuditVault();
            bad(x, "32", () -> x.hash(a, b, 16, 32));
            bad(x, "-1", () -> x.hash(a, b, 16, -1));
        });
        test(31, "the ends of long", () -> {
            hashIs(Long.MIN_VALUE, Long.MAX_VALUE, 16, 128, 0, 0, 0, 0, 0, 0, 0, 127, 255, 255, 255, 255, 255, 255,
                255);
            hashIs(-1L, Long.MIN_VALUE, 9, 255, 255, 255, 255, 255, 255, 255, 255, 128);
            hashIs(0L, -1L, 16, 0, 0, 0, 0, 0, 0, 0, 0, 255, 255, 255, 255, 255, 255, 255, 255);
        });
        test(31, "while shut", () -> due("hash", shutWithEntries(1).hash(0, 0, 0, 31), 85));
        test(31, "changes nothing", () -> {
            AuditVault x = withEntries(3);
            x.path(0, 3);
            Sight before = new Sight(x);
            x.hash(a, b, 16, 0);
            due("as it was", before.firstChange(new Sight(x)).length(), 0);
        });
    }

    // ---- promise 32

    private static void count() {
        test(32, "all of a new one", () -> row("count", new int[8], new AuditVault()::count));
        test(32, "all of a full one", () -> {
            AuditVault x = new AuditVault();
            x.clock(1000000);
            addEntries(x, 57);
            for (int i = 0; i < 3; i++) {
                x.request(1, 0, 0);
            }
            x.sync();
            x.path(0, 60);
            row("count", new int[] {60, 1020, 1020, 0, 1000000, 6, 57, 3}, x::count);
        });
        test(32, "while shut", () -> {
            AuditVault x = halfSafe();
            x.cut(20);
            row("count", new int[] {0, 54, 34, 1, 0, 0, 4, 0}, x::count);
            x.open();
            row("opened, count", new int[] {3, 51, 51, 0, 0, 0, 4, 0}, x::count);
        });
        test(32, "8 is BAD, -1 too", () -> {
            AuditVault x = withEntries(3);
            bad(x, "8", () -> x.count(8));
            bad(x, "-1", () -> x.count(-1));
        });
        test(32, "allowed and not allowed, both ever", () -> {
            AuditVault x = new AuditVault();
            for (int turn = 0; turn < 3; turn++) {
                addEntries(x, 20);
                for (int i = 0; i < 10; i++) {
                    x.request(5, 0, 0);
                }
                x.cut(0);
                x.open();
            }
            due("entries", x.count(0), 0);
            due("allowed", x.count(6), 60);
            due("not allowed", x.count(7), 30);
        });
        test(32, "a refused request is neither", () -> {
            AuditVault x = withEntries(60);
            x.request(0, 0, 0);
            x.request(1, 0, 0);
            x.request(12, 0, 0);
            x.cut(0);
            x.request(0, 0, 0);
            due("allowed", x.count(6), 60);
            due("not allowed", x.count(7), 0);
        });
        test(32, "other acts are neither", () -> {
            AuditVault x = new AuditVault();
            x.give(1, 0, 0);
            x.take(1, 0, 0);
            x.subject(1, 0, 0);
            x.object(1, 0, 0);
            x.unlock(1);
            due("allowed", x.count(6), 0);
            due("not allowed", x.count(7), 0);
        });
    }

    // ---- promise 33

    /** The document's sum without a wrap-around, cut to a long in the end. */
    private static long digestOf(AuditVault x) {
        BigInteger h = BigInteger.valueOf(17);
        for (int s = 0; s < 12; s++) {
            for (int what = 0; what < 4; what++) {
                h = plus(h, x.subjectAt(s, what));
            }
        }
        for (int o = 0; o < 16; o++) {
            h = plus(plus(h, x.objectAt(o, 0)), x.objectAt(o, 1));
        }
        for (int i = 0; i < 1020; i++) {
            h = plus(h, x.disk(i));
        }
        for (int what = 0; what < 6; what++) {
            h = plus(h, x.count(what));
        }
        return h.longValue();
    }

    private static BigInteger plus(BigInteger h, int value) {
        return h.multiply(BigInteger.valueOf(31)).add(BigInteger.valueOf(value));
    }

    private static long powerOf31(int n) {
        return BigInteger.valueOf(31).pow(n).longValue();
    }

    private static void adds(String name, AuditVault x, long before, long want) {
        due(name, x.digest() - before, want);
    }

    private static void digest() {
        test(33, "a new one: 17 times 31, 1106 times over, wrapped", () ->
            due("digest", new AuditVault().digest(), BigInteger.valueOf(17).multiply(BigInteger.valueOf(31).pow(1106))
                .longValue()));
        test(33, "a full log", () -> {
            AuditVault x = withEntries(60);
            due("digest", x.digest(), digestOf(x));
        });
        test(33, "while shut", () -> {
            AuditVault x = halfSafe();
            x.cut(20);
            due("digest", x.digest(), digestOf(x));
        });
        test(33, "wraps below 0 and above it", () -> {
            int below = 0;
            AuditVault x = new AuditVault();
            for (int i = 0; i < 60; i++) {
                x.request(0, i % 16, i % 4);
                due("digest", x.digest(), digestOf(x));
                below += x.digest() < 0 ? 1 : 0;
            }
            holds("both have come", below > 0 && below < 60);
        });
        test(33, "every byte of the disk, the greatest", () -> {
            AuditVault x = new AuditVault();
            for (int i = 0; i < 1020; i++) {
                long before = x.digest();
                x.spoil(i, 255);
                adds("byte " + i, x, before, 255 * powerOf31(1025 - i));
            }
        });
        test(33, "CLOCK and the hashes of the proof", () -> {
            AuditVault x = withEntries(7);
            long before = x.digest();
            x.clock(1000000);
            adds("clock", x, before, 31000000);
            before = x.digest();
            x.path(0, 7);
            adds("hashes", x, before, 3);
        });
        test(33, "the safe bytes", () -> {
            AuditVault x = withEntries(7);
            long before = x.digest();
            x.sync();
            adds("safe", x, before, 119 * 31 * 31 * 31);
        });
        digestOfTheMonitor();
    }

    /** Acts whose entries are lost leave the monitor's part of the digest alone. */
    private static void digestOfTheMonitor() {
        long fresh = new AuditVault().digest();
        test(33, "the first and the last subject and object", () -> {
            AuditVault x = new AuditVault();
            x.subject(0, 7, 3);
            x.subject(11, 6, 2);
            x.object(0, 5, 10);
            x.object(15, 4, 9);
            x.cut(0);
            x.open();
            adds("places", x, fresh, 7 * powerOf31(1105) + 3 * powerOf31(1104) + 6 * powerOf31(1061)
                + 2 * powerOf31(1060) + 5 * powerOf31(1057) + 10 * powerOf31(1056) + 4 * powerOf31(1027)
                + 9 * powerOf31(1026));
        });
        test(33, "whether one is locked, and how many were not allowed", () -> {
            AuditVault x = withLocked(11);
            x.cut(0);
            x.open();
            adds("lock", x, fresh, powerOf31(1059) + 3 * powerOf31(1058));
        });
        test(33, "whether it is shut", () -> {
            AuditVault x = new AuditVault();
            x.cut(0);
            adds("shut", x, fresh, 31 * 31);
        });
        test(33, "not the requests ever, what is given, or the kept roots", () -> {
            AuditVault x = new AuditVault();
            x.request(0, 0, 0);
            x.give(1, 2, 3);
            x.keep(0, 2);
            x.cut(0);
            x.open();
            due("allowed", x.count(6), 1);
            adds("nothing", x, fresh, 0);
        });
        test(33, "changes nothing", () -> {
            AuditVault x = halfSafe();
            Sight before = new Sight(x);
            x.digest();
            due("as it was", before.firstChange(new Sight(x)).length(), 0);
        });
    }

    public static void main(String[] args) {
        sync();
        cut();
        open();
        disk();
        audit();
        hash();
        count();
        digest();
        end(25, 33);
    }
}
