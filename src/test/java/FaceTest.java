import java.lang.reflect.Constructor;
import java.lang.reflect.Field;
import java.lang.reflect.Method;
import java.lang.reflect.Modifier;
import java.util.HashSet;
import java.util.Set;

/** The face of the class (LANGUAGE.md, rule 1): what the document tells, and nothing besides. */
public final class FaceTest {
    private static final String[] FACE = {
        "int pan(int) I S",
        "int blow(int,int,int) I A S",
        "int burn(int) I S",
        "int tuner(int,int) I A S",
        "boolean cover(boolean)",
        "int phrase(int,int,int) I A S",
        "int change(int,int,int) I A",
        "int put(int) I S",
        "int cut(int) I",
        "int player(int,int,int) I A S",
        "int give(int,int) I A",
        "boolean absent(int,boolean) I",
        "int teach(int,int,int) I A S",
        "int rehearse(int) A S",
        "int pass(int,int,int) A",
        "int sponsor(int) A",
        "int rival(int) A S",
        "int lean(int,int) I A",
        "int play() S",
        "int ofPan(int,int) I A",
        "int off(int,int) I",
        "int ofPhrase(int,int) I A",
        "int ofPlayer(int,int) I A",
        "int memory(int,int) I",
        "int ofPlace(int,int) I A",
        "int mark(int) I",
        "int ofRound(int,int) I A",
        "int many(int) A",
        "double meanMemory()",
        "int wouldTotal(int) A",
        "int bestOrder() S",
        "int bestTeach(int,int) I A",
        "int blowsFor(int) I",
        "long digest()",
    };

    public static void main(String[] args) {
        Check.due("public and final", Panyard.class.getModifiers(), Modifier.PUBLIC | Modifier.FINAL);
        methods();
        for (Field field : Panyard.class.getDeclaredFields()) {
            Check.due(field + " is private", Modifier.isPrivate(field.getModifiers()), true);
            boolean isStatic = Modifier.isStatic(field.getModifiers());
            Check.due(field + " is no static state", !isStatic || Modifier.isFinal(field.getModifiers()), true);
        }
        Constructor<?>[] constructors = Panyard.class.getDeclaredConstructors();
        Check.due("one constructor", constructors.length, 1);
        Check.due("without parameters", constructors[0].getParameterCount(), 0);
        Check.due("that is public", Modifier.isPublic(constructors[0].getModifiers()), true);
        for (Class<?> inside : Panyard.class.getDeclaredClasses()) {
            Check.due(inside + " is static", Modifier.isStatic(inside.getModifiers()), true);
            Check.due(inside + " is not public", Modifier.isPublic(inside.getModifiers()), false);
        }
        Check.finish();
    }

    private static void methods() {
        Set<String> due = new HashSet<>(Set.of(FACE));
        Set<String> names = new HashSet<>();
        for (String line : FACE) {
            names.add(line.substring(line.indexOf(' ') + 1, line.indexOf('(')));
        }
        for (Method method : Panyard.class.getDeclaredMethods()) {
            if (Modifier.isPublic(method.getModifiers())) {
                Check.due(told(method) + " is of the face", due.remove(told(method)), true);
            } else {
                Check.due(method + " is private", Modifier.isPrivate(method.getModifiers()), true);
                Check.due(method + " has a name of its own", names.contains(method.getName()), false);
            }
        }
        Check.due("all are there but " + due, due.size(), 0);
    }

    private static String told(Method method) {
        StringBuilder text = new StringBuilder();
        text.append(method.getReturnType()).append(' ').append(method.getName()).append('(');
        String comma = "";
        for (Class<?> parameter : method.getParameterTypes()) {
            text.append(comma).append(parameter);
            comma = ",";
        }
        text.append(')');
        for (Class<?> exception : method.getExceptionTypes()) {
            text.append(exception == Check.INDEX ? " I" : exception == Check.ARGUMENT ? " A"
                    : exception == Check.STATE ? " S" : " ?");
        }
        return text.toString();
    }
}
