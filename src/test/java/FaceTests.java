import java.lang.reflect.Constructor;
import java.lang.reflect.Field;
import java.lang.reflect.Method;
import java.lang.reflect.Modifier;
import java.util.HashSet;
import java.util.Set;
import java.util.TreeSet;

/** The face of the class is that of the document, and nothing else (LANGUAGE.md, rules 1 and 5). */
final class FaceTests {
    // Behind the parameters the exceptions: I IndexOutOfBounds, A IllegalArgument, S IllegalState.
    private static final String FACE = "int append(int,int,int,int,int)|int parse(int) A|int errorPosition()|int size(int) A|"
        + "int machine(int,int) IA|int strength(int,int) I|boolean isAccepting(int,int) I|"
        + "int goes(int,int,int) I|int distance(int,int) I|int whyNotBid(int,int) I|int bidLetter(int) I|"
        + "int bid(int) I|int sum(int) I|int winner()|int price()|int pays(int) I|"
        + "int coinsAfter(int,int) IA|int letter(int)|boolean accepts(int) I|boolean isAgreed()|"
        + "long words(int,int) IA|int shortest(int) I|int shortestLetter(int,int) I|int differs(int,int) I|"
        + "int log(int,int) A|int account(int) A|int play(int) AS|int buy(int,int) IS|int reset(int) IS|"
        + "int give(int,int,int) IAS|int setWeight(int,int) IA|int undo()|boolean saveSnapshot(int) I|"
        + "int restoreSnapshot(int) IS";

    private FaceTests() {
    }

    static void run() {
        Class<?> face = LetterAuction.class;
        Check.yes("the class is public and final", Modifier.isPublic(face.getModifiers()) && Modifier.isFinal(face.getModifiers()));
        Check.same("NONE", -1, LetterAuction.NONE);
        Set<String> methods = new TreeSet<>();
        Set<String> names = new HashSet<>();
        for (Method method : face.getDeclaredMethods()) {
            if (!Modifier.isPrivate(method.getModifiers())) {
                methods.add(signature(method));
                names.add(method.getName());
            }
        }
        Check.same("the methods", new TreeSet<>(Set.of(FACE.split("\\|"))).toString(), methods.toString());
        for (Class<?> inside : face.getDeclaredClasses()) {
            Check.yes(inside + " is static", Modifier.isStatic(inside.getModifiers()));
            Check.no(inside + " is public", Modifier.isPublic(inside.getModifiers()) || Modifier.isProtected(inside.getModifiers()));
            noPublicNames(inside, names);
            fields(inside);
        }
        noPublicNames(face, names);
        fields(face);
        for (Field field : face.getDeclaredFields()) {
            Check.yes(field + " is private", field.getName().equals("NONE") || Modifier.isPrivate(field.getModifiers()));
        }
        Constructor<?>[] constructors = face.getDeclaredConstructors();
        Check.same("constructors", 1, constructors.length);
        Check.yes("the constructor is public", Modifier.isPublic(constructors[0].getModifiers()));
        Check.same("its parameters", 0, constructors[0].getParameterCount());
    }

    private static String signature(Method method) {
        StringBuilder all = new StringBuilder(method.getReturnType().getName()).append(' ').append(method.getName()).append('(');
        Class<?>[] parameters = method.getParameterTypes();
        for (int i = 0; i < parameters.length; i++) {
            all.append(i > 0 ? "," : "").append(parameters[i].getName());
        }
        all.append(')');
        Class<?>[] exceptions = method.getExceptionTypes();
        for (int i = 0; i < exceptions.length; i++) {
            all.append(i == 0 ? " " : "").append(exceptions[i].getSimpleName().replace("Illegal", "").charAt(0));
        }
        return all.toString();
    }

    private static void noPublicNames(Class<?> inside, Set<String> names) {
        for (Method method : inside.getDeclaredMethods()) {
            if (Modifier.isPrivate(method.getModifiers())) {
                Check.no(method + " bears the name of a public one", names.contains(method.getName()));
            }
        }
    }

    private static void fields(Class<?> inside) {
        int own = 0;
        for (Field field : inside.getDeclaredFields()) {
            boolean isStatic = Modifier.isStatic(field.getModifiers());
            own += isStatic ? 0 : 1;
            Check.yes(field + " is final if static", !isStatic || Modifier.isFinal(field.getModifiers()));
        }
        Check.yes(inside + " has some twenty fields", own <= 20);
    }
}
