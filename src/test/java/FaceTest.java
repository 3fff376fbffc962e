import java.lang.reflect.Constructor;
import java.lang.reflect.Field;
import java.lang.reflect.Method;
import java.lang.reflect.Modifier;
import java.util.Arrays;
import java.util.TreeSet;

/** The face of the class is that of the document, and nothing else of it can be seen. */
public final class FaceTest {
    private static final String[] METHODS = {
        "int feed(int)", "int circuit()", "int party(int,int)", "int as(int,int)", "int judge(int,int)",
        "int trial(int,int)", "int finds(int,int)", "int names(int,int)", "int hear(int)", "int swap(int,int)",
        "int soothe(int)", "int seat(int)", "int lean(int,int)", "int undo()", "int image(int)", "int restore(int)",
        "int ahead(int,int)", "int throwing(int,int)", "int worth(int)", "int duel(int,int,int)",
        "int order(int,int)", "int round(int,int)", "int bench(int)", "int errors(int,int,int,int)",
        "int decades(int,int,int)", "int sheet(int,int,int)", "int drop(int)", "long item(int,int,int,long)",
        "int copy(int,int,int,int,int)", "int log(int,int,int,int)", "int leans(int,int,int,int,int,int)",
        "int kinds(int,int,int,int,int,int)", "int count(int)"};
    private static final String[] CONSTANTS = {"BAD -1", "NOT -2", "FULL -3", "NONE -4", "NULL -11", "CAST -12",
        "INDEX -13", "SIZE -14"};
    private static int wrong = 0;

    private static void due(String what, Object got, Object want) {
        if (!got.equals(want)) {
            wrong++;
            System.out.println(what + ": " + got + ", due is " + want);
        }
    }

    private static String told(Method m) {
        StringBuilder text = new StringBuilder(m.getReturnType() + " " + m.getName() + "(");
        for (int i = 0; i < m.getParameterCount(); i++) {
            text.append(i == 0 ? "" : ",").append(m.getParameterTypes()[i]);
        }
        return text.append(")").toString();
    }

    private static void checkMethods() {
        TreeSet<String> seen = new TreeSet<>();
        TreeSet<String> publicNames = new TreeSet<>();
        TreeSet<String> privateNames = new TreeSet<>();
        for (Method m : LoserPicks.class.getDeclaredMethods()) {
            if (Modifier.isPrivate(m.getModifiers())) {
                privateNames.add(m.getName());
            } else {
                due(m + " is public", Modifier.isPublic(m.getModifiers()), true);
                due(m + " is static", Modifier.isStatic(m.getModifiers()), false);
                seen.add(told(m));
                publicNames.add(m.getName());
            }
        }
        due("methods", seen, new TreeSet<>(Arrays.asList(METHODS)));
        privateNames.retainAll(publicNames);
        due("private methods named as public ones", privateNames, new TreeSet<String>());
    }

    private static void checkFields() throws IllegalAccessException {
        TreeSet<String> seen = new TreeSet<>();
        for (Field f : LoserPicks.class.getDeclaredFields()) {
            if (!Modifier.isPrivate(f.getModifiers())) {
                due(f + " is public", Modifier.isPublic(f.getModifiers()), true);
                seen.add(f.getName() + " " + f.getInt(null));
            }
            if (Modifier.isStatic(f.getModifiers())) {
                due(f + " is final", Modifier.isFinal(f.getModifiers()), true);
            }
        }
        due("constants", seen, new TreeSet<>(Arrays.asList(CONSTANTS)));
    }

    public static void main(String[] args) throws IllegalAccessException {
        checkMethods();
        checkFields();
        due("final", Modifier.isFinal(LoserPicks.class.getModifiers()), true);
        due("constructors", LoserPicks.class.getDeclaredConstructors().length, 1);
        for (Constructor<?> c : LoserPicks.class.getDeclaredConstructors()) {
            due("constructor", c.toString(), "public LoserPicks()");
        }
        for (Class<?> inside : LoserPicks.class.getDeclaredClasses()) {
            due(inside + " is static", Modifier.isStatic(inside.getModifiers()), true);
            due(inside + " is public", Modifier.isPublic(inside.getModifiers()), false);
        }
        System.out.println(wrong == 0 ? "the face is as due" : wrong + " parts of the face are not as due");
        if (wrong != 0) {
            System.exit(1);
        }
    }
}
