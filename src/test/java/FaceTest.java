import java.lang.reflect.Constructor;
import java.lang.reflect.Field;
import java.lang.reflect.Method;
import java.lang.reflect.Modifier;
import java.util.TreeSet;

/** The public face: all of it, with what it throws, and nothing else that is not private. */
final class FaceTest {
    private FaceTest() {
    }

    public static void main(String[] args) {
        TreeSet<String> methods = new TreeSet<>();
        for (Method method : PathLists.class.getDeclaredMethods()) {
            if (!Modifier.isPrivate(method.getModifiers())) {
                methods.add(method.toString().replace("PathLists.", "").replace("java.lang.", ""));
            }
        }
        String index = "IndexOutOfBoundsException";
        String state = "IllegalStateException";
        String argument = "IllegalArgumentException";
        TreeSet<String> due = new TreeSet<>();
        due.add("public int pin() throws " + state);
        due.add("public int arc(int,int,double) throws " + index + "," + state + "," + argument);
        due.add("public int end(int,double) throws " + index + "," + state + "," + argument);
        due.add("public int start(int,double) throws " + index + "," + state + "," + argument);
        due.add("public boolean through(int,int) throws " + index + "," + argument);
        due.add("public int run(int) throws " + argument);
        due.add("public double slack(int) throws " + state + "," + index);
        due.add("public int at(int,int) throws " + state + "," + index);
        due.add("public int group(int,int) throws " + index + "," + argument);
        due.add("public int model(int) throws " + index);
        due.add("public boolean into(int,int) throws " + index);
        due.add("public double reduced(int,int,int) throws " + index);
        due.add("public double budget(int,int) throws " + state + "," + index);
        due.add("public boolean whatIf(int,double) throws " + index + "," + state + "," + argument);
        due.add("public boolean back()");
        Check.same("the methods", methods.toString(), due.toString());
        Check.same("the fields", openFields(), "[public static final int PathLists.NONE]");
        Check.same("the constructors", openConstructors(), "[public PathLists()]");
        Check.same("the class is public", Modifier.isPublic(PathLists.class.getModifiers()), true);
        Check.same("the class is final", Modifier.isFinal(PathLists.class.getModifiers()), true);
        Check.finish();
    }

    private static String openFields() {
        TreeSet<String> fields = new TreeSet<>();
        for (Field field : PathLists.class.getDeclaredFields()) {
            if (!Modifier.isPrivate(field.getModifiers())) {
                fields.add(field.toString());
            }
        }
        return fields.toString();
    }

    private static String openConstructors() {
        TreeSet<String> constructors = new TreeSet<>();
        for (Constructor<?> constructor : PathLists.class.getDeclaredConstructors()) {
            constructors.add(constructor.toString());
        }
        return constructors.toString();
    }
}
