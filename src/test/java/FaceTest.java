import java.lang.reflect.Constructor;
import java.lang.reflect.Field;
import java.lang.reflect.Method;
import java.lang.reflect.Modifier;
import java.util.TreeSet;

/** The class's face: what the document's section "The public face" lists, and nothing else that is not private. */
final class FaceTest {

    private static final String[] FACE = {
        "boolean put(int,int) IllegalArgumentException IllegalStateException",
        "int remove(int) NoSuchElementException", "int rebuild()", "int setKind(int) IllegalArgumentException",
        "int setSeed(int) IllegalArgumentException", "int setLimit(int) IllegalArgumentException", "int clear()",
        "int size()", "int capacity()", "int tombstones()", "int kind()", "int seed()", "int limit()",
        "int rebuilds()", "int growths()", "boolean isNearLimit()", "boolean contains(int)",
        "int get(int) NoSuchElementException", "int slotOf(int) NoSuchElementException",
        "int probe(int,int) IllegalArgumentException IndexOutOfBoundsException",
        "int step(int) IllegalArgumentException", "int probes(int) IllegalArgumentException",
        "int probesBySlot(int) NoSuchElementException", "int keyAt(int) NoSuchElementException",
        "int hardestKey() NoSuchElementException", "boolean isFull(int) IndexOutOfBoundsException",
        "boolean isTombstone(int) IndexOutOfBoundsException",
        "int keyIn(int) IndexOutOfBoundsException NoSuchElementException", "int clusters()",
        "int clusterSize(int) IndexOutOfBoundsException", "int largestCluster()", "int largestClusterByHalves()",
        "double meanProbes() ArithmeticException", "long meanProbesBits() ArithmeticException", "float load()",
        "int loadBits()", "int trial(int,int,int) IllegalArgumentException",
        "int bestKind(int,int) IllegalArgumentException", "boolean isConsistent()", "int writeSlots()",
        "int writeKeys()", "char charAt(int) IndexOutOfBoundsException", "int type(char) IllegalStateException",
        "int run() IllegalArgumentException UnsupportedOperationException",
        "int errorPosition() NoSuchElementException", "int failedCommand() NoSuchElementException",
        "int undo() IllegalStateException", "int save()", "int restore() IllegalStateException"};

    public static void main(String[] args) {
        TreeSet<String> due = new TreeSet<>(java.util.List.of(FACE));
        TreeSet<String> got = new TreeSet<>();
        TreeSet<String> privates = new TreeSet<>();
        TreeSet<String> publics = new TreeSet<>();
        for (Method method : HashLab.class.getDeclaredMethods()) {
            if (Modifier.isPrivate(method.getModifiers())) {
                privates.add(method.getName());
            } else {
                publics.add(method.getName());
                got.add(described(method));
            }
        }
        Check.equal("the methods", got, due);
        privates.retainAll(publics);
        Check.equal("private methods with a public one's name", privates, new TreeSet<String>());
        Check.isTrue("the class is public", Modifier.isPublic(HashLab.class.getModifiers()));
        Check.isTrue("the class is final", Modifier.isFinal(HashLab.class.getModifiers()));
        Check.equal("constructors", HashLab.class.getDeclaredConstructors().length, 1);
        for (Constructor<?> constructor : HashLab.class.getDeclaredConstructors()) {
            Check.isTrue("the constructor is public", Modifier.isPublic(constructor.getModifiers()));
            Check.equal("the constructor's arguments", constructor.getParameterCount(), 0);
        }
        for (Field field : HashLab.class.getDeclaredFields()) {
            Check.isTrue(field.getName() + " is private", Modifier.isPrivate(field.getModifiers()));
        }
        Check.end();
    }

    private static String described(Method method) {
        Check.equal(method.getName() + " is public and no more", method.getModifiers(), Modifier.PUBLIC);
        StringBuilder text = new StringBuilder();
        text.append(method.getReturnType().getName()).append(' ').append(method.getName()).append('(');
        for (Class<?> type : method.getParameterTypes()) {
            text.append(text.charAt(text.length() - 1) == '(' ? "" : ",").append(type.getName());
        }
        text.append(')');
        for (Class<?> type : method.getExceptionTypes()) {
            text.append(' ').append(type.getSimpleName());
        }
        return text.toString();
    }
}
