import java.lang.reflect.Field;
import java.lang.reflect.Method;
import java.lang.reflect.Modifier;
import java.util.HashSet;
import java.util.Set;
import java.util.TreeSet;

/** The class shows the document's face and nothing else. */
public final class LetterNetFace {
    private static final String[] METHODS = {
        "int begin(int)", "int add(int,int,int)", "int remove(int)", "int turn(int,int)",
        "int know(int,int)", "int mend()", "int mendByLetter()", "int setRoom(int)", "int undo()",
        "int told(int)", "int link(int,int)", "int between(int,int)", "int way(int,int,int)",
        "int send(int,int,int)", "int letter(int)", "int passed(int)", "int carried(int,int)",
        "int all(int,int)", "float stretch(int)", "int enoughRoom()", "int write(int)",
        "int wipe()", "int fault()", "int execute()", "int keep(int)", "int back(int)"};
    private static int wrong = 0;

    private static void due(String what, Object got, Object want) {
        if (!got.equals(want)) {
            wrong++;
            System.out.println(what + " is " + got + ", due is " + want);
        }
    }

    private static String signature(Method method) {
        StringBuilder types = new StringBuilder();
        for (Class<?> type : method.getParameterTypes()) {
            types.append(types.length() == 0 ? "" : ",").append(type.getName());
        }
        return method.getReturnType().getName() + " " + method.getName() + "(" + types + ")";
    }

    private static void methods() {
        Set<String> shown = new TreeSet<>();
        Set<String> names = new HashSet<>();
        for (Method method : LetterNet.class.getDeclaredMethods()) {
            if (!Modifier.isPrivate(method.getModifiers())) {
                due(method + " public", Modifier.isPublic(method.getModifiers()), true);
                shown.add(signature(method));
                names.add(method.getName());
            }
        }
        due("the methods", shown, new TreeSet<>(Set.of(METHODS)));
        for (Method method : LetterNet.class.getDeclaredMethods()) {
            if (Modifier.isPrivate(method.getModifiers())) {
                due(method + " has a public name", names.contains(method.getName()), false);
            }
        }
    }

    private static void fields() {
        Set<String> shown = new TreeSet<>();
        for (Field field : LetterNet.class.getDeclaredFields()) {
            int modifiers = field.getModifiers();
            if (!Modifier.isPrivate(modifiers)) {
                due(field.getName() + " constant", Modifier.isPublic(modifiers)
                        && Modifier.isStatic(modifiers) && Modifier.isFinal(modifiers), true);
                shown.add(field.getType() + " " + field.getName());
            }
            due(field.getName() + " static but not final",
                    Modifier.isStatic(modifiers) && !Modifier.isFinal(modifiers), false);
        }
        due("the constants", shown,
                new TreeSet<>(Set.of("int BAD", "int STATE", "int FULL", "int NONE")));
    }

    public static void main(String[] args) {
        methods();
        fields();
        due("public", Modifier.isPublic(LetterNet.class.getModifiers()), true);
        due("final", Modifier.isFinal(LetterNet.class.getModifiers()), true);
        due("constructors", LetterNet.class.getDeclaredConstructors().length, 1);
        due("public constructors", LetterNet.class.getConstructors().length, 1);
        System.out.println(wrong == 0 ? "the face is the document's" : wrong + " differences");
        if (wrong != 0) {
            System.exit(1);
        }
    }
}
