import java.lang.reflect.Constructor;
import java.lang.reflect.Field;
import java.lang.reflect.Method;
import java.lang.reflect.Modifier;
import java.util.Arrays;
import java.util.Set;
import java.util.TreeSet;

/** The public face: the constant, the constructor and the methods of the document, no others. */
public final class FaceTest {
    private static final String[] METHODS = {
        "int years(int)", "int fact(int,int,int)", "boolean line(int,int,int)",
        "int check(int,int)", "int rate(int)", "int chance(int)", "boolean takes(int,int)",
        "int plan(int,int)", "int letter(int,int,int)", "int weight(int)", "int believed(int)",
        "int quarrel(int)", "int proof(int)", "boolean mark(int,int,int)",
        "int shift(int) throws java.util.NoSuchElementException", "boolean paid(int,boolean)",
        "int feed(long,long,long)", "int text()", "int stars(int)", "int number(int,int)",
        "int edition()", "int printed(int,int,int)", "int errors(int,int)", "int count(int)",
        "int look(int,int) throws java.util.NoSuchElementException",
    };

    public static void main(String[] args) {
        Due due = new Due();
        due.is("NONE", GuideBook.NONE, -1);
        due.is("the class is final", Modifier.isFinal(GuideBook.class.getModifiers()), true);
        due.is("the methods are the document's",
            visibleMethods().equals(new TreeSet<>(Arrays.asList(METHODS))), true);
        due.is("the visible fields", visibleFields(), 1);
        Constructor<?>[] constructors = GuideBook.class.getDeclaredConstructors();
        due.is("constructors", constructors.length, 1);
        due.is("its parameters", constructors[0].getParameterCount(), 0);
        due.is("it is public", Modifier.isPublic(constructors[0].getModifiers()), true);
        due.end();
    }

    private static Set<String> visibleMethods() {
        Set<String> found = new TreeSet<>();
        for (Method method : GuideBook.class.getDeclaredMethods()) {
            if (!Modifier.isPrivate(method.getModifiers())) {
                found.add(method.toString().replace("public ", "").replace("GuideBook.", ""));
            }
        }
        return found;
    }

    private static int visibleFields() {
        int found = 0;
        for (Field field : GuideBook.class.getDeclaredFields()) {
            found += Modifier.isPrivate(field.getModifiers()) ? 0 : 1;
        }
        return found;
    }
}
