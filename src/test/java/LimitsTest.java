import java.util.ArrayList;
import java.util.List;

/**
 * Every number that a call takes: the least and the greatest that is allowed, the one beyond each, and the ends of
 * int; on a log with room, a full one, and a shut one. What is beyond is BAD in all three, ahead of SHUT and FULL.
 */
public final class LimitsTest extends Cases {
    private static final int OPEN = 0, WHEN_FULL = 1, WHEN_SHUT = 2;
    private static final String[] STATES = {"with room", "when full", "when shut"};
    private static final int PROOF_HASHES = 3;

    private LimitsTest() { }

    private interface Asked {
        int of(AuditVault x, int[] numbers);
    }

    /** A call with numbers that it takes, and each number's least and greatest (none, if the least is above). */
    private record Call(int promise, String name, Asked asked, int[] numbers, int[][] limits) {
        /** An act of the monitor is an entry of the log. */
        boolean isAct() {
            return promise >= 3 && promise <= 8;
        }

        boolean hasNone() {
            for (int[] limit : limits) {
                if (limit[0] > limit[1]) {
                    return true;
                }
            }
            return false;
        }
    }

    private static int[] numbers(int... numbers) {
        return numbers;
    }

    private static int[] from(int least, int most) {
        return new int[] {least, most};
    }

    private static final int[] SUBJECT = {0, 11}, OBJECT = {0, 15}, RIGHT = {0, 3}, LEVEL = {0, 7}, GROUP = {0, 3};
    private static final int[] PARTY_OF_GROUP = {16, 19};
    private static final int[] HASH_BYTE = {0, 31}, MASK = {1, 255}, KEPT = {0, 3}, TOLD = {0, 60};

    private static int[][] limits(int[]... limits) {
        return limits;
    }

    private static List<Call> monitorCalls() {
        List<Call> calls = new ArrayList<>();
        calls.add(new Call(2, "clock", (x, a) -> x.clock(a[0]), numbers(5), limits(from(0, 1000000))));
        calls.add(new Call(3, "request", (x, a) -> x.request(a[0], a[1], a[2]), numbers(5, 5, 2),
            limits(SUBJECT, OBJECT, RIGHT)));
        for (int to : new int[] {5, 17}) {
            int[] party = to < 12 ? SUBJECT : PARTY_OF_GROUP;
            String whom = to < 12 ? " of a subject" : " of a group";
            calls.add(new Call(4, "give" + whom, (x, a) -> x.give(a[0], a[1], a[2]), numbers(to, 5, 2),
                limits(party, OBJECT, RIGHT)));
            calls.add(new Call(5, "take" + whom, (x, a) -> x.take(a[0], a[1], a[2]), numbers(to, 5, 2),
                limits(party, OBJECT, RIGHT)));
            calls.add(new Call(11, "given" + whom, (x, a) -> x.given(a[0], a[1], a[2]), numbers(to, 5, 2),
                limits(party, OBJECT, RIGHT)));
        }
        calls.add(new Call(6, "subject", (x, a) -> x.subject(a[0], a[1], a[2]), numbers(5, 5, 2),
            limits(SUBJECT, LEVEL, GROUP)));
        calls.add(new Call(7, "object", (x, a) -> x.object(a[0], a[1], a[2]), numbers(5, 5, 5),
            limits(OBJECT, LEVEL, SUBJECT)));
        calls.add(new Call(8, "unlock", (x, a) -> x.unlock(a[0]), numbers(5), limits(SUBJECT)));
        calls.add(new Call(9, "subjectAt", (x, a) -> x.subjectAt(a[0], a[1]), numbers(5, 2),
            limits(SUBJECT, from(0, 3))));
        calls.add(new Call(10, "objectAt", (x, a) -> x.objectAt(a[0], a[1]), numbers(5, 1),
            limits(OBJECT, from(0, 1))));
        return calls;
    }

    private static List<Call> logCalls(int entries) {
        List<Call> calls = new ArrayList<>();
        calls.add(new Call(12, "entry", (x, a) -> x.entry(a[0], a[1]), numbers(0, 5),
            limits(from(0, entries - 1), from(0, 11))));
        calls.add(new Call(13, "chain", (x, a) -> x.chain(a[0], a[1]), numbers(0, 5),
            limits(from(0, entries), HASH_BYTE)));
        calls.add(new Call(14, "root", (x, a) -> x.root(a[0], a[1]), numbers(0, 5),
            limits(from(0, entries), HASH_BYTE)));
        calls.add(new Call(15, "path", (x, a) -> x.path(a[0], a[1]), numbers(2, 5),
            limits(from(0, Math.min(entries, 5) - 1), from(3, entries))));
        calls.add(new Call(16, "steps", (x, a) -> x.steps(a[0], a[1]), numbers(3, 5),
            limits(from(1, Math.min(entries, 5)), from(3, entries))));
        calls.add(new Call(17, "proof", (x, a) -> x.proof(a[0], a[1]), numbers(1, 5),
            limits(from(0, PROOF_HASHES - 1), HASH_BYTE)));
        calls.add(new Call(18, "spoilProof", (x, a) -> x.spoilProof(a[0], a[1], a[2]), numbers(1, 5, 9),
            limits(from(0, PROOF_HASHES - 1), HASH_BYTE, MASK)));
        calls.add(new Call(19, "cutProof", (x, a) -> x.cutProof(a[0]), numbers(1), limits(from(0, PROOF_HASHES))));
        calls.add(new Call(20, "keep", (x, a) -> x.keep(a[0], a[1]), numbers(1, 0),
            limits(KEPT, from(0, entries))));
        calls.add(new Call(21, "kept", (x, a) -> x.kept(a[0], a[1]), numbers(1, 5), limits(KEPT, HASH_BYTE)));
        calls.add(new Call(22, "spoilKept", (x, a) -> x.spoilKept(a[0], a[1], a[2]), numbers(1, 5, 9),
            limits(KEPT, HASH_BYTE, MASK)));
        calls.add(new Call(23, "judgePath", (x, a) -> x.judgePath(a[0], a[1], a[2], a[3]), numbers(2, 5, 2, 1),
            limits(TOLD, TOLD, from(0, entries - 1), KEPT)));
        calls.add(new Call(24, "judgeSteps", (x, a) -> x.judgeSteps(a[0], a[1], a[2], a[3]), numbers(3, 5, 1, 2),
            limits(TOLD, TOLD, KEPT, KEPT)));
        return calls;
    }

    private static List<Call> diskCalls() {
        List<Call> calls = new ArrayList<>();
        calls.add(new Call(26, "cut", (x, a) -> x.cut(a[0]), numbers(5), limits(from(0, 1020))));
        calls.add(new Call(28, "disk", (x, a) -> x.disk(a[0]), numbers(5), limits(from(0, 1019))));
        calls.add(new Call(29, "spoil", (x, a) -> x.spoil(a[0], a[1]), numbers(5, 9), limits(from(0, 1019), MASK)));
        calls.add(new Call(31, "hash", (x, a) -> x.hash(-3L, 7L, a[0], a[1]), numbers(5, 5),
            limits(from(0, 16), HASH_BYTE)));
        calls.add(new Call(32, "count", (x, a) -> x.count(a[0]), numbers(5), limits(from(0, 7))));
        return calls;
    }

    /** Half of the bytes written are safe, the proof has three hashes, two roots are kept, a right is given. */
    private static AuditVault vaultIn(int state) {
        AuditVault x = new AuditVault();
        x.clock(99);
        x.give(18, 3, 1);
        x.request(4, 4, 3);
        addEntries(x, 2);
        x.sync();
        addEntries(x, state == WHEN_FULL ? 56 : 5);
        x.path(2, 6);
        x.keep(1, 4);
        x.keep(2, 2);
        if (state == WHEN_SHUT) {
            x.cut(40);
        }
        return x;
    }

    private static String textOf(Call call, int[] numbers) {
        StringBuilder text = new StringBuilder(call.name()).append('(');
        for (int i = 0; i < numbers.length; i++) {
            text.append(i == 0 ? "" : ", ").append(numbers[i]);
        }
        return text.append(')').toString();
    }

    private static void isTaken(Call call, int state, int[] numbers) {
        AuditVault x = vaultIn(state);
        String text = textOf(call, numbers);
        boolean isShut = state == WHEN_SHUT && (call.isAct() || call.promise() == 26);
        boolean isFull = state == WHEN_FULL && call.isAct();
        if (isShut || isFull) {
            refused(x, text, isShut ? SHUT : FULL, () -> call.asked().of(x, numbers));
        } else {
            int answer = call.asked().of(x, numbers);
            holds(text + " is taken, but answered " + answer, answer >= 0);
        }
    }

    private static void isBad(Call call, int state, int[] numbers) {
        AuditVault x = vaultIn(state);
        bad(x, textOf(call, numbers), () -> call.asked().of(x, numbers));
    }

    private static int[] with(Call call, int place, int number) {
        int[] numbers = call.numbers().clone();
        numbers[place] = number;
        return numbers;
    }

    private static void limitsOf(Call call, int state, int place) {
        int least = call.limits()[place][0];
        int most = call.limits()[place][1];
        String of = call.name() + ", number " + (place + 1) + " " + STATES[state] + ", ";
        test(call.promise(), of + "below the least", () -> isBad(call, state, with(call, place, least - 1)));
        test(call.promise(), of + "above the greatest", () -> isBad(call, state, with(call, place, most + 1)));
        test(call.promise(), of + "the least int", () -> isBad(call, state, with(call, place, LOW)));
        test(call.promise(), of + "the greatest int", () -> isBad(call, state, with(call, place, HIGH)));
        if (!call.hasNone()) {
            test(call.promise(), of + "the least", () -> isTaken(call, state, with(call, place, least)));
            test(call.promise(), of + "the greatest", () -> isTaken(call, state, with(call, place, most)));
        }
    }

    private static void limitsIn(int state) {
        List<Call> calls = monitorCalls();
        calls.addAll(logCalls(state == WHEN_SHUT ? 0 : state == WHEN_FULL ? 60 : 9));
        calls.addAll(diskCalls());
        for (Call call : calls) {
            for (int place = 0; place < call.limits().length; place++) {
                limitsOf(call, state, place);
            }
            if (call.hasNone()) {
                test(call.promise(), call.name() + " of no entries", () -> isBad(call, state, call.numbers()));
            }
        }
    }

    public static void main(String[] args) {
        limitsIn(OPEN);
        limitsIn(WHEN_FULL);
        limitsIn(WHEN_SHUT);
        test(1, "the vault with room", () -> due("entries", vaultIn(OPEN).count(0), 9));
        test(1, "the full vault", () -> due("entries", vaultIn(WHEN_FULL).count(0), 60));
        test(1, "the shut vault", () -> due("shut", vaultIn(WHEN_SHUT).count(3), 1));
        test(1, "the proof", () -> due("hashes", vaultIn(OPEN).count(5), PROOF_HASHES));
        end(2, 24);
    }
}
