import java.lang.reflect.Constructor;
import java.lang.reflect.Field;
import java.lang.reflect.Member;
import java.lang.reflect.Method;
import java.lang.reflect.Modifier;
import java.util.ArrayList;
import java.util.Arrays;
import java.util.Collections;
import java.util.List;

/** The public face: what the document tells is there, and nothing else can be seen. */
public final class FaceTest {
    private static final String[] METHODS = {"int feed(int,int,int,int,int)", "int end(int)", "int program()",
        "int fault()", "void begin() IllegalStateException",
        "int run(int) IllegalArgumentException IllegalStateException", "int about(int)",
        "int said(int) NoSuchElementException", "int act(int,int,int,int)", "int pass(int)", "boolean turn()",
        "int memory(int)", "int hand(int,int)", "int stack(int,int)", "int slot(int,int,int)", "int reach(int)",
        "int show(int)", "int letter(int)"};

    public static void main(String[] args) {
        List<String> want = new ArrayList<>(Arrays.asList(METHODS));
        List<String> got = new ArrayList<>();
        List<String> hidden = new ArrayList<>();
        for (Method method : TwinHalves.class.getDeclaredMethods()) {
            if (isSeen(method)) {
                got.add(told(method));
            } else {
                hidden.add(method.getName());
            }
        }
        Collections.sort(want);
        Collections.sort(got);
        Check.due("the methods", got.toString(), want.toString());
        for (Class<?> inside : TwinHalves.class.getDeclaredClasses()) {
            Check.due(inside + " is static", Modifier.isStatic(inside.getModifiers()) ? 1 : 0, 1);
            for (Method method : inside.getDeclaredMethods()) {
                hidden.add(method.getName());
            }
        }
        for (String line : want) {
            String name = line.substring(line.indexOf(' ') + 1, line.indexOf('('));
            Check.due("private methods named " + name, hidden.contains(name) ? 1 : 0, 0);
        }
        Constructor<?>[] constructors = TwinHalves.class.getDeclaredConstructors();
        Check.due("constructors", constructors.length, 1);
        Check.due("the constructor", Arrays.toString(constructors[0].getParameterTypes()), "[int, int]");
        for (Field field : TwinHalves.class.getDeclaredFields()) {
            boolean isNone = field.getName().equals("NONE");
            Check.due("field " + field.getName() + " is seen", isSeen(field) ? 1 : 0, isNone ? 1 : 0);
        }
        Check.due("NONE", TwinHalves.NONE, -1);
        Check.due("public final", Modifier.toString(TwinHalves.class.getModifiers()), "public final");
        Check.end();
    }

    private static boolean isSeen(Member member) {
        return !member.isSynthetic() && !Modifier.isPrivate(member.getModifiers());
    }

    private static String told(Method method) {
        List<String> takes = new ArrayList<>();
        for (Class<?> type : method.getParameterTypes()) {
            takes.add(type.getSimpleName());
        }
        StringBuilder line = new StringBuilder(method.getReturnType().getSimpleName());
        line.append(' ').append(method.getName()).append('(').append(String.join(",", takes)).append(')');
        for (Class<?> type : method.getExceptionTypes()) {
            line.append(' ').append(type.getSimpleName());
        }
        return line.toString();
    }
}
