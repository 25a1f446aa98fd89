import java.lang.reflect.Constructor;
import java.lang.reflect.Field;
import java.lang.reflect.Method;
import java.lang.reflect.Modifier;
import java.util.Arrays;
import java.util.Set;
import java.util.TreeSet;

/** The public face, to the letter, and nothing but it (rule 1 of LANGUAGE.md). */
public final class FaceTest {
    private static final String[] METHODS = {
        "int feed(int,int,int,int,int)", "boolean end(int)", "int fault(int)", "int text(int)", "int rule(int)",
        "int name(int,int)", "int well(int,int)", "int file(int,int)", "boolean law(int)", "int dip(int,int)",
        "int scratch(int,int)", "int blot(int)", "int water(int)", "int fill(int)", "int give(int)",
        "int years(int)", "boolean flies(int)", "int decades(int,long)", "int status(int)", "int undo()",
        "int log(int,int)", "int layer(int,int)", "int reach(int)", "int faction(int,int)", "int silence(int)",
        "int seen(int,int)", "int gone(int,int)", "int sure(int)", "int ask(int)",
        "int game(int,int,int,int,int,int)", "int rests(int,int,int,int)", "int odds(int,int)",
        "int shares(int,int)", "int most(int)", "int known(int)", "int quiet(int)", "int image()", "int back()",
        "int count(int)"};

    public static void main(String[] args) throws Exception {
        Bench bench = new Bench("FaceTest");
        Class<?> face = DrownedNames.class;
        bench.due("public and final", Modifier.isPublic(face.getModifiers()) && Modifier.isFinal(face.getModifiers()), true);
        bench.due("NONE", DrownedNames.NONE, -1);
        bench.due("HIDDEN", DrownedNames.HIDDEN, -1000000);

        Set<String> open = new TreeSet<>();
        Set<String> openNames = new TreeSet<>();
        Set<String> hiddenNames = new TreeSet<>();
        for (Method method : face.getDeclaredMethods()) {
            if (Modifier.isPrivate(method.getModifiers())) {
                hiddenNames.add(method.getName());
            } else {
                bench.due(method.getName() + " public, of objects", Modifier.isPublic(method.getModifiers())
                        && !Modifier.isStatic(method.getModifiers()), true);
                open.add(signature(method));
                openNames.add(method.getName());
            }
        }
        bench.due("methods " + open, open.equals(new TreeSet<>(Arrays.asList(METHODS))), true);
        hiddenNames.retainAll(openNames);
        bench.due("private methods named as public ones " + hiddenNames, hiddenNames.size(), 0);

        Constructor<?>[] constructors = face.getDeclaredConstructors();
        bench.due("constructors", constructors.length, 1);
        bench.due("constructor public without anything", Modifier.isPublic(constructors[0].getModifiers())
                && constructors[0].getParameterCount() == 0, true);

        for (Field field : face.getDeclaredFields()) {
            boolean constant = field.getName().equals("NONE") || field.getName().equals("HIDDEN");
            bench.due("field " + field.getName(), Modifier.isPrivate(field.getModifiers()), !constant);
            if (Modifier.isStatic(field.getModifiers())) {
                bench.due("static " + field.getName() + " final", Modifier.isFinal(field.getModifiers()), true);
            }
        }
        Class<?>[] thrown = face.getMethod("name", int.class, int.class).getExceptionTypes();
        bench.due("name throws", thrown.length == 1 && thrown[0] == java.util.NoSuchElementException.class, true);
        nested(bench, face, openNames);
        bench.finish();
    }

    /** Rules 1, 5 and 11 for the classes inside: static, not open to all, few fields, no static state, names of their own. */
    private static void nested(Bench bench, Class<?> face, Set<String> openNames) {
        for (Class<?> inside : face.getDeclaredClasses()) {
            int modifiers = inside.getModifiers();
            bench.due(inside + " static and not open", Modifier.isStatic(modifiers)
                    && !Modifier.isPublic(modifiers) && !Modifier.isProtected(modifiers), true);
            int fields = 0;
            for (Field field : inside.getDeclaredFields()) {
                boolean constant = Modifier.isStatic(field.getModifiers());
                fields += constant ? 0 : 1;
                bench.due(field + " final", !constant || Modifier.isFinal(field.getModifiers()), true);
            }
            bench.due("at most some twenty fields: " + inside, fields <= 20, true);
            for (Method method : inside.getDeclaredMethods()) {
                boolean hidden = Modifier.isPrivate(method.getModifiers());
                bench.due("private, named as a public one: " + method, hidden && openNames.contains(method.getName()), false);
            }
        }
    }

    private static String signature(Method method) {
        StringBuilder text = new StringBuilder(method.getReturnType().getName());
        text.append(' ').append(method.getName()).append('(');
        for (int i = 0; i < method.getParameterCount(); i++) {
            text.append(i == 0 ? "" : ",").append(method.getParameterTypes()[i].getName());
        }
        return text.append(')').toString();
    }
}
