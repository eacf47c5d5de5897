import java.lang.reflect.Constructor;
import java.lang.reflect.Field;
import java.lang.reflect.Method;
import java.lang.reflect.Modifier;
import java.util.Arrays;
import java.util.Set;
import java.util.TreeSet;

/** The public face of the document, and rule 1 of LANGUAGE.md: this face and nothing beside it. */
public final class FaceTest {
    private static final String ARGUMENT = "IllegalArgumentException";
    private static final String BOTH = "IllegalArgumentException IllegalStateException";
    private static final String STATE = "IllegalStateException";

    private static final String[][] METHODS = {
        {"void testator(int)", BOTH},
        {"void person(int,int)", BOTH},
        {"void asset(int,long,boolean)", BOTH},
        {"long revalue(int,long)", BOTH},
        {"void gone(int)", BOTH},
        {"void gift(int,int)", BOTH},
        {"void legacy(int,long,int)", BOTH},
        {"void annuity(int,long,int)", BOTH},
        {"void residue(int,int)", BOTH},
        {"void strike(int)", BOTH},
        {"void taker(int,int,int)", BOTH},
        {"void charge(int,boolean)", BOTH},
        {"void debt(int,long,int)", BOTH},
        {"long settle()", STATE},
        {"long gets(int,int)", BOTH},
        {"int assetTo(int)", BOTH},
        {"int clauseState(int)", BOTH},
        {"long told(int,int)", BOTH},
        {"long paid(int)", BOTH},
        {"long sum(int)", BOTH},
        {"void close()", STATE},
        {"long worth(long,int)", ARGUMENT},
    };

    public static void main(String[] args) {
        classIsPublicAndFinal();
        methodsAreThoseOfTheDocument();
        nothingElseCanBeSeen();
        noPrivateMethodBearsAPublicName();
        Check.end();
    }

    private static void classIsPublicAndFinal() {
        int modifiers = EstateDesk.class.getModifiers();
        Check.due("public", Modifier.isPublic(modifiers) ? 1 : 0, 1);
        Check.due("final", Modifier.isFinal(modifiers) ? 1 : 0, 1);
        Check.due("NONE", EstateDesk.NONE, -1);
    }

    private static void methodsAreThoseOfTheDocument() {
        Set<String> want = new TreeSet<>();
        for (String[] method : METHODS) {
            want.add(method[0] + " throws " + method[1]);
        }
        Set<String> got = new TreeSet<>();
        for (Method method : EstateDesk.class.getDeclaredMethods()) {
            if (Modifier.isPublic(method.getModifiers())) {
                got.add(method.getReturnType() + " " + method.getName() + "(" + names(method.getParameterTypes(), ",")
                        + ") throws " + names(method.getExceptionTypes(), " "));
            }
        }
        Check.due("public methods", got.toString(), want.toString());
    }

    private static void nothingElseCanBeSeen() {
        Constructor<?>[] constructors = EstateDesk.class.getDeclaredConstructors();
        Check.due("constructors", constructors.length, 1);
        Check.due("constructor", constructors[0].toString(), "public EstateDesk()");
        for (Field field : EstateDesk.class.getDeclaredFields()) {
            boolean isPrivate = Modifier.isPrivate(field.getModifiers());
            Check.due("private " + field.getName(), isPrivate ? 1 : 0, field.getName().equals("NONE") ? 0 : 1);
        }
        for (Method method : EstateDesk.class.getDeclaredMethods()) {
            int modifiers = method.getModifiers();
            boolean isFine = Modifier.isPublic(modifiers) || Modifier.isPrivate(modifiers);
            Check.due("public or private " + method.getName(), isFine ? 1 : 0, 1);
        }
        for (Class<?> inside : EstateDesk.class.getDeclaredClasses()) {
            int modifiers = inside.getModifiers();
            boolean isFine = Modifier.isStatic(modifiers) && !Modifier.isPublic(modifiers) && !Modifier.isProtected(modifiers);
            Check.due("hidden and static " + inside.getName(), isFine ? 1 : 0, 1);
        }
    }

    private static void noPrivateMethodBearsAPublicName() {
        Set<String> publicNames = new TreeSet<>();
        for (String[] method : METHODS) {
            publicNames.add(method[0].substring(method[0].indexOf(' ') + 1, method[0].indexOf('(')));
        }
        Set<Class<?>> classes = new java.util.HashSet<>(Arrays.asList(EstateDesk.class.getDeclaredClasses()));
        classes.add(EstateDesk.class);
        for (Class<?> each : classes) {
            for (Method method : each.getDeclaredMethods()) {
                boolean clashes = !Modifier.isPublic(method.getModifiers()) && publicNames.contains(method.getName());
                Check.due("a public name borne by hidden " + method, clashes ? 1 : 0, 0);
            }
        }
    }

    private static String names(Class<?>[] types, String between) {
        StringBuilder text = new StringBuilder();
        for (Class<?> type : types) {
            text.append(text.length() == 0 ? "" : between).append(type.getSimpleName());
        }
        return text.toString();
    }
}
