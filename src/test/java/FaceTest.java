import java.lang.reflect.Constructor;
import java.lang.reflect.Field;
import java.lang.reflect.Method;
import java.lang.reflect.Modifier;
import java.util.Set;
import java.util.TreeSet;

/** The public face is the document's, and nothing else can be seen of the class. */
public final class FaceTest {
    private static final String[] METHODS = {
        "int count(int)", "int dawn(int)", "int feed(int,int,int,int,int,int)", "int text()", "int force(int)",
        "int asks(int,int,int)", "int judge(int,int,int)", "int file(int,int)", "int put(int,int,int)",
        "int told(int,int)", "int paper(int,int)", "int hearing(int,int,int)", "int hear(int,int)",
        "int rob(int,int)", "int day()", "int run(int,int)", "int when(int)", "int sitting(int)",
        "int burglary(int,int)", "int wants(int,int,int)", "int fullest(int)", "int cruel()", "long ruin(int)",
        "int tells(int)", "int kinds(int,int,int)", "int turned(int,int)", "int states(int,int,int,int)",
        "int dropped(int)", "int laws(int)", "int film(int,int)", "int drawn(int,int)",
        "long odds(int,int,int,int)", "int image()", "int back()", "int sheet(int,int,int)",
        "int cell(int,int,int)", "int copy(int,int,int,int,int)", "int judgesBy(int,int,int,int)",
        "int taken(int,int)"};
    private static final String[] CONSTANTS = {"int NONE", "int BAD", "int STATE", "int FULL", "long NO"};

    public static void main(String[] args) {
        Class<?> face = JudgesByLoss.class;
        Set<String> wrong = new TreeSet<>();
        Set<String> names = new TreeSet<>();
        Set<String> methods = new TreeSet<>(Set.of(METHODS));
        for (String method : METHODS) {
            names.add(method.substring(method.indexOf(' ') + 1, method.indexOf('(')));
        }
        for (Method method : face.getDeclaredMethods()) {
            if (Modifier.isPrivate(method.getModifiers())) {
                if (names.contains(method.getName())) {
                    wrong.add("private method with a public name: " + method);
                }
            } else if (method.getModifiers() != Modifier.PUBLIC || !methods.remove(signature(method))) {
                wrong.add("not of the face: " + method);
            }
        }
        for (String method : methods) {
            wrong.add("missing: " + method);
        }
        checkFields(face, wrong);
        Constructor<?>[] constructors = face.getDeclaredConstructors();
        if (constructors.length != 1 || constructors[0].getModifiers() != Modifier.PUBLIC
            || constructors[0].getParameterCount() != 0) {
            wrong.add("the constructor");
        }
        if (face.getModifiers() != (Modifier.PUBLIC | Modifier.FINAL)) {
            wrong.add("the class is not just public and final");
        }
        for (Class<?> inner : face.getDeclaredClasses()) {
            int modifiers = inner.getModifiers();
            if (!Modifier.isStatic(modifiers) || Modifier.isPublic(modifiers) || Modifier.isProtected(modifiers)) {
                wrong.add("inner class " + inner);
            }
        }
        wrong.forEach(System.out::println);
        System.out.println(wrong.isEmpty() ? "the face is as due" : wrong.size() + " things of the face are wrong");
        System.exit(wrong.isEmpty() ? 0 : 1);
    }

    private static void checkFields(Class<?> face, Set<String> wrong) {
        Set<String> constants = new TreeSet<>(Set.of(CONSTANTS));
        for (Field field : face.getDeclaredFields()) {
            int modifiers = field.getModifiers();
            if (Modifier.isPrivate(modifiers)) {
                continue;
            }
            boolean constant = modifiers == (Modifier.PUBLIC | Modifier.STATIC | Modifier.FINAL);
            if (!constant || !constants.remove(field.getType() + " " + field.getName())) {
                wrong.add("not of the face: " + field);
            }
        }
        for (String constant : constants) {
            wrong.add("missing: " + constant);
        }
    }

    private static String signature(Method method) {
        StringBuilder text = new StringBuilder();
        text.append(method.getReturnType()).append(' ').append(method.getName()).append('(');
        for (Class<?> type : method.getParameterTypes()) {
            text.append(text.charAt(text.length() - 1) == '(' ? "" : ",").append(type);
        }
        return text.append(')').toString();
    }
}
