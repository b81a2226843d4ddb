import java.lang.reflect.Constructor;
import java.lang.reflect.Field;
import java.lang.reflect.Method;
import java.lang.reflect.Modifier;
import java.util.Set;
import java.util.TreeSet;

/** The public face of the document, no more and no less (rules 1 and 11 of LANGUAGE.md too). */
public final class FaceTest {
    private static final String[] FACE = {
        "rough()",
        "scan(int,int,long,long) IndexOutOfBoundsException IllegalArgumentException",
        "stuff(int) IndexOutOfBoundsException",
        "feed(int,int,int,int,int)",
        "model(int) IllegalArgumentException IllegalStateException",
        "price(int,int) IllegalArgumentException",
        "worth(int) IllegalArgumentException",
        "fit(int,int,int) IndexOutOfBoundsException NoSuchElementException IllegalArgumentException",
        "best(int) IndexOutOfBoundsException",
        "sawn(int,int) IndexOutOfBoundsException IllegalArgumentException",
        "cut(int,int,int) IndexOutOfBoundsException IllegalArgumentException",
        "done(int) IndexOutOfBoundsException",
        "facet(int,int,int) NoSuchElementException IllegalArgumentException",
        "round(int) NoSuchElementException",
        "plan(int,int) NoSuchElementException",
        "polish(int) NoSuchElementException",
        "told(int,int) NoSuchElementException IllegalArgumentException",
        "match()",
        "lot(int,int) IllegalArgumentException",
        "bid(int,int,int) IndexOutOfBoundsException IllegalArgumentException",
        "most(int,int) IndexOutOfBoundsException IllegalArgumentException",
        "sell()",
        "count(int)"};

    public static void main(String[] args) {
        Set<String> names = new TreeSet<>();
        methods(names);
        fieldsAndConstructors();
        classesInside(names);
        Check.end();
    }

    private static void methods(Set<String> names) {
        Set<String> want = new TreeSet<>(Set.of(FACE));
        Set<String> got = new TreeSet<>();
        for (Method method : RoughStones.class.getDeclaredMethods()) {
            if (Modifier.isPublic(method.getModifiers())) {
                got.add(told(method));
                names.add(method.getName());
                Check.due(method + " answers an int", method.getReturnType() == int.class ? 1 : 0, 1);
                Check.due(method + " is of the object", Modifier.isStatic(method.getModifiers()) ? 1 : 0, 0);
            }
        }
        Check.due("face " + got + " for " + want, got.equals(want) ? 1 : 0, 1);
        for (Method method : RoughStones.class.getDeclaredMethods()) {
            if (!Modifier.isPublic(method.getModifiers())) {
                Check.due(method + " is private", Modifier.isPrivate(method.getModifiers()) ? 1 : 0, 1);
                Check.due(method + " has a name of its own", names.contains(method.getName()) ? 1 : 0, 0);
            }
        }
    }

    private static String told(Method method) {
        StringBuilder text = new StringBuilder(method.getName()).append("(");
        for (Class<?> type : method.getParameterTypes()) {
            text.append(text.charAt(text.length() - 1) == '(' ? "" : ",").append(type.getName());
        }
        text.append(")");
        for (Class<?> type : method.getExceptionTypes()) {
            text.append(" ").append(type.getSimpleName());
        }
        return text.toString();
    }

    private static void fieldsAndConstructors() {
        Check.due("the class is public and final", RoughStones.class.getModifiers(),
                Modifier.PUBLIC | Modifier.FINAL);
        int open = 0;
        for (Field field : RoughStones.class.getDeclaredFields()) {
            open += Modifier.isPrivate(field.getModifiers()) ? 0 : 1;
            Check.due(field + " is not a static variable",
                    Modifier.isStatic(field.getModifiers()) && !Modifier.isFinal(field.getModifiers()) ? 1 : 0, 0);
        }
        Check.due("NONE alone is open", open, 1);
        Constructor<?>[] made = RoughStones.class.getDeclaredConstructors();
        Check.due("one constructor", made.length, 1);
        Check.due("without arguments", made[0].getParameterCount(), 0);
        Check.due("public", Modifier.isPublic(made[0].getModifiers()) ? 1 : 0, 1);
    }

    private static void classesInside(Set<String> names) {
        Class<?>[] inside = RoughStones.class.getDeclaredClasses();
        Check.due("classes, some twelve at most", inside.length <= 12 ? 1 : 0, 1);
        for (Class<?> one : inside) {
            int kind = one.getModifiers();
            Check.due(one + " is static", Modifier.isStatic(kind) ? 1 : 0, 1);
            Check.due(one + " is hidden", Modifier.isPublic(kind) || Modifier.isProtected(kind) ? 1 : 0, 0);
            Check.due(one + " has some twenty fields at most", one.getDeclaredFields().length <= 20 ? 1 : 0, 1);
            for (Method method : one.getDeclaredMethods()) {
                Check.due(method + " has a name of its own", names.contains(method.getName()) ? 1 : 0, 0);
                Check.due(method + " takes seven at most", method.getParameterCount() <= 7 ? 1 : 0, 1);
            }
        }
    }
}
