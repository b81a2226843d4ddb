import java.io.InputStream;
import java.util.ArrayList;
import java.util.HashMap;
import java.util.HashSet;
import java.util.List;
import java.util.Map;
import java.util.Set;

/** Rules of LANGUAGE.md on calls (4, 6, 8, 11), seen in the compiled class, since its text hides who calls whom. */
public final class CallsTest {
    private static final int DEEPEST = 8;
    private static final int PUBLIC = 1;
    private static final int PRIVATE = 2;
    private static final int THROW = 0xbf;
    private static final int PUT_STATIC = 0xb3;
    private static final int ENTER_MONITOR = 0xc2;

    /** Of rule 4 as much as the class has use for; what it also allows may be added. */
    private static final Set<String> LIBRARY = Set.of("java/lang/Long.bitCount(J)I", "java/lang/Math.abs(I)I",
            "java/lang/Math.max(II)I", "java/lang/Math.min(II)I", "java/util/ArrayList.add(Ljava/lang/Object;)Z",
            "java/util/ArrayList.get(I)Ljava/lang/Object;", "java/util/ArrayList.size()I",
            "java/util/ArrayList.<init>()V", "java/lang/Object.<init>()V",
            "java/lang/System.arraycopy(Ljava/lang/Object;ILjava/lang/Object;II)V",
            "java/lang/IllegalArgumentException.<init>(Ljava/lang/String;)V",
            "java/lang/IllegalStateException.<init>(Ljava/lang/String;)V",
            "java/lang/IndexOutOfBoundsException.<init>(Ljava/lang/String;)V",
            "java/util/NoSuchElementException.<init>(Ljava/lang/String;)V");

    /** Each has a guard on its depth. */
    private static final Set<String> CALL_THEMSELVES = Set.of("RoughStones$Auction.give(II)V");

    private final Map<String, ClassFile.Method> methods = new HashMap<>();
    private final Map<String, Integer> depths = new HashMap<>();

    public static void main(String[] args) throws Exception {
        CallsTest test = new CallsTest();
        test.read(RoughStones.class);
        for (Class<?> inside : RoughStones.class.getDeclaredClasses()) {
            test.read(inside);
        }
        for (ClassFile.Method method : test.methods.values()) {
            test.look(method);
        }
        Check.end();
    }

    private void read(Class<?> one) throws Exception {
        try (InputStream bytes = one.getResourceAsStream(one.getName() + ".class")) {
            for (ClassFile.Method method : new ClassFile(one.getName(), bytes).methods) {
                methods.put(method.key(), method);
            }
        }
    }

    private void look(ClassFile.Method method) {
        String key = method.key();
        boolean built = method.name.startsWith("<init>");
        boolean isStatic = method.name.startsWith("<clinit>");
        for (String call : method.calls) {
            Check.due(key + " may call " + call, methods.containsKey(call) || LIBRARY.contains(call) ? 1 : 0, 1);
        }
        Check.due(key + " catches nothing", method.catches, 0);
        Check.due(key + " locks nothing", method.operations.contains(ENTER_MONITOR) ? 1 : 0, 0);
        Check.due(key + " throws in no constructor", built && method.operations.contains(THROW) ? 1 : 0, 0);
        Check.due(key + " changes no static", !isStatic && method.operations.contains(PUT_STATIC) ? 1 : 0, 0);
        if (method.calls.contains(key)) {
            Check.due(key + " may call itself", CALL_THEMSELVES.contains(key) ? 1 : 0, 1);
            Check.due(key + " is private", method.flags & PRIVATE, PRIVATE);
        }
        if ((method.flags & PUBLIC) != 0) {
            List<String> chain = new ArrayList<>();
            Check.due("calls go eight deep at most from " + key, depth(key, chain) <= DEEPEST ? 1 : 0, 1);
        }
    }

    /** How deep calls go from one on, itself counted, a call of itself not. */
    private int depth(String key, List<String> open) {
        if (open.contains(key)) {
            Check.fail("calls go round: " + open + " to " + key);
            return 0;
        }
        if (!methods.containsKey(key)) {
            return 1;
        }
        if (!depths.containsKey(key)) {
            open.add(key);
            int deepest = 0;
            for (String call : new HashSet<>(methods.get(key).calls)) {
                deepest = Math.max(deepest, call.equals(key) ? 0 : depth(call, open));
            }
            open.remove(key);
            depths.put(key, deepest + 1);
        }
        return depths.get(key);
    }
}
