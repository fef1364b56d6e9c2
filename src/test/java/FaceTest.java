import java.io.IOException;
import java.lang.management.ManagementFactory;
import java.lang.reflect.Field;
import java.lang.reflect.Method;
import java.lang.reflect.Modifier;
import java.nio.file.Files;
import java.nio.file.Path;
import java.util.Set;
import java.util.TreeSet;
import java.util.regex.Pattern;

/** The public face, the rules of LANGUAGE.md that can be read off the source, and the room that calls take. */
public final class FaceTest {
    private static final Set<String> FACE = Set.of(
        "int clock(int)", "int request(int,int,int)", "int give(int,int,int)", "int take(int,int,int)",
        "int subject(int,int,int)", "int object(int,int,int)", "int unlock(int)", "int subjectAt(int,int)",
        "int objectAt(int,int)", "int given(int,int,int)", "int entry(int,int)", "int chain(int,int)",
        "int root(int,int)", "int path(int,int)", "int steps(int,int)", "int proof(int,int)",
        "int spoilProof(int,int,int)", "int cutProof(int)", "int keep(int,int)", "int kept(int,int)",
        "int spoilKept(int,int,int)", "int judgePath(int,int,int,int)", "int judgeSteps(int,int,int,int)",
        "int sync()", "int cut(int)", "int open()", "int disk(int)", "int spoil(int,int)", "int audit()",
        "int hash(long,long,int,int)", "int count(int)", "long digest()");
    private static final String[] FORBIDDEN = {"throw", "try", "catch", "synchronized", "assert", "import", "package",
        "protected", "->", "::", "Exact"};

    private FaceTest() { }

    private static String signatureOf(Method method) {
        StringBuilder text = new StringBuilder(method.getReturnType().getSimpleName() + " " + method.getName() + "(");
        for (Class<?> type : method.getParameterTypes()) {
            text.append(text.charAt(text.length() - 1) == '(' ? "" : ",").append(type.getSimpleName());
        }
        return text.append(")").toString();
    }

    private static void face() {
        Set<String> found = new TreeSet<>();
        Set<String> names = new TreeSet<>();
        for (Method method : AuditVault.class.getDeclaredMethods()) {
            if (Modifier.isPublic(method.getModifiers())) {
                found.add(signatureOf(method));
                names.add(method.getName());
                Check.holds(method.getName() + " is no static method", !Modifier.isStatic(method.getModifiers()));
            }
        }
        Check.holds("the public methods are those of the document: " + found, found.equals(FACE));
        hidden(AuditVault.class, names);
        for (Class<?> inner : AuditVault.class.getDeclaredClasses()) {
            Check.holds(inner.getName() + " is static", Modifier.isStatic(inner.getModifiers()));
            hidden(inner, names);
        }
        Set<String> constants = new TreeSet<>();
        for (Field field : AuditVault.class.getDeclaredFields()) {
            if (Modifier.isPublic(field.getModifiers())) {
                constants.add(field.getName());
            } else {
                Check.holds(field.getName() + " is private", Modifier.isPrivate(field.getModifiers()));
            }
        }
        Check.holds("the public constants", constants.equals(Set.of("NONE", "BAD", "SHUT", "FULL", "NOT")));
        Check.holds("the class is final", Modifier.isFinal(AuditVault.class.getModifiers()));
        Check.due("public constructors", AuditVault.class.getConstructors().length, 1);
        Check.due("NONE", AuditVault.NONE, -1);
        Check.due("BAD", AuditVault.BAD, -2);
        Check.due("SHUT", AuditVault.SHUT, -3);
        Check.due("FULL", AuditVault.FULL, -4);
        Check.due("NOT", AuditVault.NOT, -5);
    }

    private static void hidden(Class<?> type, Set<String> publicNames) {
        for (Method method : type.getDeclaredMethods()) {
            if (!Modifier.isPublic(method.getModifiers())) {
                Check.holds(method.getName() + " is private", Modifier.isPrivate(method.getModifiers()));
                Check.holds(method.getName() + " has a name of its own", !publicNames.contains(method.getName()));
                Check.holds(method.getName() + " has seven parameters at most", method.getParameterCount() <= 7);
            }
        }
    }

    private static void language() throws IOException {
        String source = Files.readString(Path.of("src/main/java/AuditVault.java"));
        String code = source.replaceAll("(?s)/\\*.*?\\*/", "").replaceAll("//[^\n]*", "");
        for (String word : FORBIDDEN) {
            boolean isName = Character.isLetter(word.charAt(0));
            String pattern = isName && !word.equals("Exact") ? "\\b" + word + "\\b" : Pattern.quote(word);
            Check.holds("the source does without " + word, !Pattern.compile(pattern).matcher(code).find());
        }
    }

    private static void everyCall(AuditVault x, int n) {
        x.request(n % 12, n % 16, n % 4);
        x.give(n % 12, n % 16, n % 4);
        x.take(n % 12, n % 16, n % 4);
        x.subject(n % 12, n % 8, n % 4);
        x.object(n % 16, n % 8, n % 12);
        x.unlock(n % 12);
        x.subjectAt(n % 12, n % 5);
        x.objectAt(n % 16, n % 3);
        x.given(16 + n % 4, n % 16, n % 4);
        x.clock(n);
        x.chain(n % 60, n % 32);
        x.entry(n % 60, n % 12);
        x.root(x.count(0), n % 32);
        x.keep(n % 4, x.count(0));
        x.path(n % 60, x.count(0));
        x.judgePath(n % 60, x.count(0), n % 60, n % 4);
        x.steps(1 + n % 60, x.count(0));
        x.judgeSteps(1 + n % 60, x.count(0), n % 4, n % 4);
        x.proof(n % 8, n % 32);
        x.spoilProof(n % 8, n % 32, 1);
        x.cutProof(n % 8);
        x.kept(n % 4, n % 32);
        x.spoilKept(n % 4, n % 32, 1);
        x.sync();
        x.audit();
        x.hash(n, n, n % 17, n % 32);
        x.digest();
        if (n % 15 == 14) {
            x.spoil(100, 1);
            x.cut(n);
            x.disk(n);
            x.open();
        }
    }

    /** All calls of a run share one room: a call that made objects would fill it. */
    private static void room() {
        com.sun.management.ThreadMXBean threads = (com.sun.management.ThreadMXBean) ManagementFactory.getThreadMXBean();
        long self = Thread.currentThread().getId();
        AuditVault x = new AuditVault();
        everyCall(x, 14);
        long before = threads.getThreadAllocatedBytes(self);
        for (int n = 0; n < 1000; n++) {
            everyCall(x, n);
        }
        long bytes = threads.getThreadAllocatedBytes(self) - before;
        Check.holds("28000 calls make no objects, but made " + bytes + " bytes", bytes < 28000);
        before = threads.getThreadAllocatedBytes(self);
        new AuditVault().clock(0);
        bytes = threads.getThreadAllocatedBytes(self) - before;
        Check.holds("a new object is small, but has " + bytes + " bytes", bytes < 40000);
    }

    public static void main(String[] args) throws IOException {
        face();
        language();
        room();
        Check.end();
    }
}
