import java.lang.reflect.Constructor;
import java.lang.reflect.Field;
import java.lang.reflect.Method;
import java.lang.reflect.Modifier;
import java.util.Set;
import java.util.TreeSet;

/** The public face: every method with its throws clause, and nothing else that can be seen. */
public final class FaceTest {
    private static final String INDEX = "IndexOutOfBoundsException";
    private static final String ARGUMENT = "IllegalArgumentException";
    private static final String STATE = "IllegalStateException";
    private static final String ELEMENT = "NoSuchElementException";
    private static final String UNSUPPORTED = "UnsupportedOperationException";
    private static final String ARITHMETIC = "ArithmeticException";

    private static final Set<String> FACE = new TreeSet<>(Set.of(
            face("int addOwner(int)", ARGUMENT, STATE),
            face("int createFile(int)", INDEX, STATE),
            face("int fileCount()"),
            face("boolean doesExist(int)", INDEX),
            face("int linksOf(int)", INDEX),
            face("int link(int)", INDEX, STATE),
            face("int unlink(int)", INDEX, STATE),
            face("int write(int,int,int)", INDEX, ARGUMENT, STATE, UNSUPPORTED),
            face("int punch(int,int)", INDEX, STATE),
            face("int read(int,int)", INDEX, ELEMENT),
            face("int blockAt(int,int)", INDEX, ELEMENT),
            face("int blocksOf(int)", INDEX),
            face("int usedBy(int)", INDEX),
            face("int free()"),
            face("int usersOf(int)", INDEX),
            face("int usersByWalk(int)", INDEX),
            face("int promise(int,int)", INDEX, ARGUMENT, UNSUPPORTED),
            face("int promisedTo(int)", INDEX),
            face("int giveBack(int)", INDEX, STATE),
            face("int takeSnapshot(int)", ARGUMENT, STATE),
            face("boolean isKept(int)", INDEX),
            face("int readFrom(int,int,int)", INDEX, ELEMENT),
            face("int thin(int)", ARGUMENT, STATE),
            face("int nextToDrop()", ELEMENT),
            face("int restore(int,int)", INDEX, ELEMENT, STATE, UNSUPPORTED),
            face("int openHold(int,int)", INDEX, ARGUMENT, STATE),
            face("int release(int)", INDEX, STATE),
            face("boolean isOpen(int)", INDEX),
            face("int holdsOn(int)", INDEX),
            face("int nextEnd()", ELEMENT),
            face("int pass(int)", ARGUMENT, STATE),
            face("int day()"),
            face("int begin()", STATE),
            face("int commit()", STATE),
            face("int crash()"),
            face("int journalSize()"),
            face("char entryKind(int)", INDEX),
            face("double meanUsers()", ARITHMETIC),
            face("float heldShare()", ARITHMETIC),
            face("boolean isConsistent()"),
            face("int writeFile(int)", INDEX),
            face("char lineAt(int)", INDEX)));

    public static void main(String[] args) {
        Set<String> seen = new TreeSet<>();
        for (Method method : InodeCouncil.class.getDeclaredMethods()) {
            if (Modifier.isPublic(method.getModifiers())) {
                seen.add(told(method));
            } else {
                Checks.due("private " + method, Modifier.isPrivate(method.getModifiers()), true);
                Checks.due("name of the private " + method, bearsPublicName(method), false);
            }
        }
        Checks.due("the face", seen, FACE);
        Checks.due("the class's modifiers", InodeCouncil.class.getModifiers(),
                Modifier.PUBLIC | Modifier.FINAL);
        Constructor<?>[] constructors = InodeCouncil.class.getDeclaredConstructors();
        Checks.due("constructors", constructors.length, 1);
        Checks.due("the constructor", constructors[0].toString(), "public InodeCouncil()");
        for (Field field : InodeCouncil.class.getDeclaredFields()) {
            Checks.due("private " + field, Modifier.isPrivate(field.getModifiers()), true);
            Checks.due("static, not final " + field, Modifier.isStatic(field.getModifiers())
                    && !Modifier.isFinal(field.getModifiers()), false);
        }
        Checks.finish("FaceTest");
    }

    private static boolean bearsPublicName(Method method) {
        for (String face : FACE) {
            if (face.contains(" " + method.getName() + "(")) {
                return true;
            }
        }
        return false;
    }

    private static String face(String signature, String... exceptions) {
        return signature + " throws " + String.join(" ", exceptions);
    }

    private static String told(Method method) {
        StringBuilder text = new StringBuilder(method.getReturnType().getName());
        text.append(' ').append(method.getName()).append('(');
        for (Class<?> type : method.getParameterTypes()) {
            text.append(text.charAt(text.length() - 1) == '(' ? "" : ",").append(type.getName());
        }
        Class<?>[] types = method.getExceptionTypes();
        String[] names = new String[types.length];
        for (int i = 0; i < types.length; i++) {
            names[i] = types[i].getSimpleName();
        }
        return face(text.append(')').toString(), names);
    }
}
