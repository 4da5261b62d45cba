import java.lang.reflect.Constructor;
import java.lang.reflect.Field;
import java.lang.reflect.Method;
import java.lang.reflect.Modifier;
import java.util.HashSet;
import java.util.Set;
import java.util.TreeSet;

/** The face of the class is that of the document, and nothing else (LANGUAGE.md, rules 1 and 5). */
final class FaceTests {
    private static final String FACE = "int append(int,int,int,int,int)|int parse(int)|int errorPosition()|int size(int)|"
        + "int machine(int,int)|int strength(int,int)|boolean isAccepting(int,int)|int goes(int,int,int)|"
        + "int distance(int,int)|int whyNotBid(int,int)|int bidLetter(int)|int bid(int)|int sum(int)|int winner()|"
        + "int price()|int pays(int)|int coinsAfter(int,int)|int letter(int)|boolean accepts(int)|boolean isAgreed()|"
        + "long words(int,int)|int shortest(int)|int shortestLetter(int,int)|int differs(int,int)|int log(int,int)|"
        + "int account(int)|int play(int)|int buy(int,int)|int reset(int)|int give(int,int,int)|int setWeight(int,int)|"
        + "int undo()|boolean saveSnapshot(int)|int restoreSnapshot(int)";

    private FaceTests() {
    }

    static void run() {
        Class<?> face = LetterAuction.class;
        Check.yes("the class is public and final", Modifier.isPublic(face.getModifiers()) && Modifier.isFinal(face.getModifiers()));
        Check.same("NONE", -1, LetterAuction.NONE);
        Set<String> methods = new TreeSet<>();
        Set<String> names = new HashSet<>();
        for (Method method : face.getDeclaredMethods()) {
            if (!Modifier.isPrivate(method.getModifiers())) {
                methods.add(signature(method));
                names.add(method.getName());
            }
        }
        Check.same("the methods", new TreeSet<>(Set.of(FACE.split("\\|"))).toString(), methods.toString());
        for (Class<?> inside : face.getDeclaredClasses()) {
            Check.yes(inside + " is static", Modifier.isStatic(inside.getModifiers()));
            Check.no(inside + " is public", Modifier.isPublic(inside.getModifiers()) || Modifier.isProtected(inside.getModifiers()));
            noPublicNames(inside, names);
            fields(inside);
        }
        noPublicNames(face, names);
        fields(face);
        for (Field field : face.getDeclaredFields()) {
            Check.yes(field + " is private", field.getName().equals("NONE") || Modifier.isPrivate(field.getModifiers()));
        }
        Constructor<?>[] constructors = face.getDeclaredConstructors();
        Check.same("constructors", 1, constructors.length);
        Check.yes("the constructor is public", Modifier.isPublic(constructors[0].getModifiers()));
        Check.same("its parameters", 0, constructors[0].getParameterCount());
    }

    private static String signature(Method method) {
        StringBuilder all = new StringBuilder(method.getReturnType().getName()).append(' ').append(method.getName()).append('(');
        Class<?>[] parameters = method.getParameterTypes();
        for (int i = 0; i < parameters.length; i++) {
            all.append(i > 0 ? "," : "").append(parameters[i].getName());
        }
        return all.append(')').toString();
    }

    private static void noPublicNames(Class<?> inside, Set<String> names) {
        for (Method method : inside.getDeclaredMethods()) {
            if (Modifier.isPrivate(method.getModifiers())) {
                Check.no(method + " bears the name of a public one", names.contains(method.getName()));
            }
        }
    }

    private static void fields(Class<?> inside) {
        int own = 0;
        for (Field field : inside.getDeclaredFields()) {
            boolean isStatic = Modifier.isStatic(field.getModifiers());
            own += isStatic ? 0 : 1;
            Check.yes(field + " is final if static", !isStatic || Modifier.isFinal(field.getModifiers()));
        }
        Check.yes(inside + " has some twenty fields", own <= 20);
    }
}
