import java.lang.reflect.Constructor;
import java.lang.reflect.Field;
import java.lang.reflect.Method;
import java.lang.reflect.Modifier;
import java.util.ArrayList;
import java.util.Arrays;
import java.util.List;
import java.util.NoSuchElementException;
import java.util.Set;
import java.util.TreeSet;

/** The public face, and the rules of LANGUAGE.md that can be seen from the compiled class. */
public final class FaceTest {
    private static final String[] FACE = {
        "int feed(int,int,int,int,int)", "int text(int)", "int fault(int)", "int named(int,int)",
        "int look(int,int)", "int hours(int)", "int send(int,int)", "int parcel(int,int)", "long coins()",
        "int rest()", "int arrives(int,long,int)", "int keeps(int,long,int,int)", "int back(int,long,int,int)",
        "int span(int,long,int,int,int)", "int best(int,long,int,int)", "long order(int,long,int,int)",
        "int just(int,long,int,int)", "long first(int,long,int,int)", "int bound(int,int,int)",
        "int gains(int,long,int,int,int)", "int changes(int,long,int,int)", "long changed(int,long,int,int)",
        "int worth(int,long,int,int)", "int serves(int,long,int)", "long law(int,int,int,int,int)",
        "int note(int,long,int,int,int)", "int strike(int)", "boolean known(int)", "int fits()",
        "int apart(int,long,int,int)", "int tried(int,int,int)", "int keep()", "int again()", "int count(int)"};

    private static final Check check = new Check();

    public static void main(String[] args) {
        check.same("NONE", HalfHands.NONE, -1);
        face();
        declared();
        rules(HalfHands.class);
        Class<?>[] inside = HalfHands.class.getDeclaredClasses();
        check.same("at most twelve classes", inside.length < 12, true);
        for (Class<?> one : inside) {
            check.same(one + " is static", Modifier.isStatic(one.getModifiers()), true);
            check.same(one + " is not public", Modifier.isPublic(one.getModifiers()), false);
            rules(one);
        }
        check.end();
    }

    private static void face() {
        Set<String> due = new TreeSet<>(Arrays.asList(FACE));
        Set<String> names = new TreeSet<>();
        for (Method method : HalfHands.class.getDeclaredMethods()) {
            if (Modifier.isPublic(method.getModifiers())) {
                check.same("is due: " + signature(method), due.remove(signature(method)), true);
                names.add(method.getName());
            } else {
                check.same("private: " + method, Modifier.isPrivate(method.getModifiers()), true);
            }
        }
        check.same("no method is lacking: " + due, due.size(), 0);
        List<Class<?>> classes = new ArrayList<>(Arrays.asList(HalfHands.class.getDeclaredClasses()));
        classes.add(HalfHands.class);
        for (Class<?> one : classes) {
            for (Method method : one.getDeclaredMethods()) {
                boolean hides = !Modifier.isPublic(method.getModifiers()) && names.contains(method.getName());
                check.same("bears the name of a public one: " + method, hides, false);
            }
        }
        check.same("public and final", HalfHands.class.getModifiers(), Modifier.PUBLIC | Modifier.FINAL);
        Constructor<?>[] constructors = HalfHands.class.getDeclaredConstructors();
        check.same("constructors", constructors.length, 1);
        check.same("its arguments", constructors[0].getParameterCount(), 0);
        for (Field field : HalfHands.class.getDeclaredFields()) {
            boolean shown = !Modifier.isPrivate(field.getModifiers());
            check.same("shown: " + field, shown, field.getName().equals("NONE"));
        }
    }

    /** NONE as a constant, and what each call says that it may throw. */
    private static void declared() {
        for (Field field : HalfHands.class.getFields()) {
            check.same("a constant: " + field, field.getModifiers(),
                    Modifier.PUBLIC | Modifier.STATIC | Modifier.FINAL);
            check.same("an int: " + field, field.getType() == int.class, true);
        }
        for (Method method : HalfHands.class.getDeclaredMethods()) {
            List<Class<?>> thrown = Arrays.asList(method.getExceptionTypes());
            List<Class<?>> due = method.getName().equals("look")
                    ? List.of(IndexOutOfBoundsException.class, NoSuchElementException.class) : List.of();
            check.same("throws: " + method, thrown.equals(due), true);
        }
    }

    private static String signature(Method method) {
        StringBuilder text = new StringBuilder(method.getReturnType() + " " + method.getName() + "(");
        for (Class<?> type : method.getParameterTypes()) {
            text.append(text.charAt(text.length() - 1) == '(' ? "" : ",").append(type);
        }
        return text.append(')').toString();
    }

    private static void rules(Class<?> one) {
        int fields = 0;
        for (Field field : one.getDeclaredFields()) {
            boolean fixed = Modifier.isStatic(field.getModifiers());
            check.same("static and not final: " + field, fixed && !Modifier.isFinal(field.getModifiers()), false);
            fields += fixed ? 0 : 1;
        }
        check.same("at most twenty fields: " + one, fields <= 20, true);
        for (Method method : one.getDeclaredMethods()) {
            check.same("at most seven parameters: " + method, method.getParameterCount() <= 7, true);
        }
    }
}
