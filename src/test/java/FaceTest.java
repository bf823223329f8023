import java.lang.reflect.Constructor;
import java.lang.reflect.Field;
import java.lang.reflect.Method;
import java.lang.reflect.Modifier;
import java.util.Arrays;
import java.util.TreeSet;

/** The public face: exactly the constructor and methods of the document, nothing else that can be seen. */
public final class FaceTest {
    private static final String FACE = """
            public boolean LopsidedRanks.discharge(int) throws java.lang.IllegalArgumentException,java.lang.IllegalStateException
            public boolean LopsidedRanks.isThere(int) throws java.lang.IllegalArgumentException
            public double LopsidedRanks.mean()
            public int LopsidedRanks.at(int) throws java.lang.IndexOutOfBoundsException
            public int LopsidedRanks.between(int,int) throws java.lang.IllegalArgumentException
            public int LopsidedRanks.captain(int,int) throws java.lang.IllegalArgumentException,java.lang.IllegalStateException
            public int LopsidedRanks.count(int) throws java.lang.IndexOutOfBoundsException
            public int LopsidedRanks.draw(int) throws java.lang.IllegalArgumentException,java.lang.IllegalStateException
            public int LopsidedRanks.moves(int) throws java.lang.IllegalArgumentException
            public int LopsidedRanks.muster(int) throws java.lang.IllegalArgumentException,java.lang.IllegalStateException
            public int LopsidedRanks.taller(int) throws java.lang.IllegalArgumentException
            public int LopsidedRanks.told(int,int) throws java.lang.IllegalArgumentException,java.lang.IndexOutOfBoundsException,java.lang.IllegalStateException
            public int LopsidedRanks.would(int) throws java.lang.IllegalArgumentException
            public long LopsidedRanks.digest()
            """;

    public static void main(String[] args) {
        Class<?> face = LopsidedRanks.class;
        Runs.due(1, "class", Modifier.toString(face.getModifiers()), "public final");
        Runs.due(1, "constructors", Arrays.toString(face.getDeclaredConstructors()), "[public LopsidedRanks()]");
        TreeSet<String> seen = new TreeSet<>();
        TreeSet<String> hidden = new TreeSet<>();
        TreeSet<String> names = new TreeSet<>();
        for (Method method : face.getDeclaredMethods()) {
            if (Modifier.isPrivate(method.getModifiers())) {
                hidden.add(method.getName());
            } else {
                seen.add(method.toString());
                names.add(method.getName());
            }
        }
        Runs.due(1, "methods", String.join("\n", seen) + "\n", FACE);
        hidden.retainAll(names);
        Runs.due(1, "private methods with a public name", hidden, "[]");
        for (Field field : face.getDeclaredFields()) {
            Runs.due(1, "field " + field.getName() + " is private", Modifier.isPrivate(field.getModifiers()), true);
            boolean changing = Modifier.isStatic(field.getModifiers()) && !Modifier.isFinal(field.getModifiers());
            Runs.due(1, "field " + field.getName() + " is changing static state", changing, false);
        }
        for (Constructor<?> constructor : face.getConstructors()) {
            Runs.due(1, "exceptions of the constructor", constructor.getExceptionTypes().length, 0);
        }
        Runs.end();
    }
}
