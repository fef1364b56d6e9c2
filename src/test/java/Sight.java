import java.util.ArrayList;
import java.util.List;

/**
 * All that can be seen of a vault, asked by calls that change nothing. These are more than the 512 calls of the
 * document's limit; the class has no such limit of its own.
 */
final class Sight {
    private final List<String> names = new ArrayList<>();
    private final List<Long> values = new ArrayList<>();

    Sight(AuditVault x) {
        monitor(x);
        log(x);
        for (int i = 0; i < 1020; i++) {
            see("disk " + i, x.disk(i));
        }
        for (int what = 0; what < 8; what++) {
            see("count " + what, x.count(what));
        }
        see("audit", x.audit());
        see("digest", x.digest());
    }

    private void see(String name, long value) {
        names.add(name);
        values.add(value);
    }

    private void monitor(AuditVault x) {
        for (int s = 0; s < 12; s++) {
            for (int what = 0; what < 4; what++) {
                see("subjectAt " + s + " " + what, x.subjectAt(s, what));
            }
        }
        for (int o = 0; o < 16; o++) {
            see("objectAt " + o + " 0", x.objectAt(o, 0));
            see("objectAt " + o + " 1", x.objectAt(o, 1));
            for (int to = 0; to < 20; to++) {
                for (int right = 0; right < 4; right++) {
                    see("given " + to + " " + o + " " + right, x.given(to, o, right));
                }
            }
        }
    }

    /** Two bytes of each root are enough to tell it from another, and far cheaper than all 32. */
    private void log(AuditVault x) {
        for (int i = 0; i <= 60; i++) {
            see("root " + i + " 0", x.root(i, 0));
            see("root " + i + " 31", x.root(i, 31));
            for (int k = 0; k < 32; k++) {
                see("entry " + i + " " + k, x.entry(i, k));
                see("chain " + i + " " + k, x.chain(i, k));
            }
        }
        for (int k = 0; k < 32; k++) {
            for (int h = 0; h < 8; h++) {
                see("proof " + h + " " + k, x.proof(h, k));
            }
            for (int s = 0; s < 4; s++) {
                see("kept " + s + " " + k, x.kept(s, k));
            }
        }
    }

    /** What first looks otherwise in another sight; an empty text: nothing does. */
    String firstChange(Sight later) {
        for (int i = 0; i < values.size(); i++) {
            if (!values.get(i).equals(later.values.get(i))) {
                return names.get(i) + " was " + values.get(i) + ", is " + later.values.get(i);
            }
        }
        return "";
    }
}
