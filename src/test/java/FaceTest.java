import java.lang.reflect.Constructor;
import java.lang.reflect.Field;
import java.lang.reflect.Method;
import java.lang.reflect.Modifier;
import java.nio.file.Files;
import java.nio.file.Path;
import java.util.Set;
import java.util.TreeSet;

/** The class has the document's public face, sign by sign, and no other. Run from the project's folder. */
public final class FaceTest {
    private static final Check CHECK = new Check();

    public static void main(String[] args) throws Exception {
        Face face = new Face();
        String source = Files.readString(Path.of("src/main/java/WeightedLaws.java"));
        documentIsRead(face);
        constants(face);
        methods(face);
        classAndConstructor(source);
        writtenAlike(face, source);
        CHECK.end();
    }

    /** So that a document which can't be read is no face without methods. */
    private static void documentIsRead(Face face) {
        CHECK.due("methods in the document", face.heads.size(), 42);
        CHECK.due("constants in the document", face.constants.size(), 5);
        CHECK.due("remarks in the document", face.remarks.size(), 4);
        CHECK.due("promises in the document", face.promised.size(), 43);
        CHECK.due("promise 1 is a new object", face.promised.get(0).equals("WeightedLaws()"));
        CHECK.due("each call is promised, in order", face.promised.subList(1, 43).equals(face.heads));
    }

    private static void constants(Face face) throws IllegalAccessException {
        Set<String> got = new TreeSet<>();
        for (Field field : WeightedLaws.class.getDeclaredFields()) {
            if (!Modifier.isPrivate(field.getModifiers())) {
                got.add(field.getName());
                int due = Modifier.PUBLIC | Modifier.STATIC | Modifier.FINAL;
                CHECK.due(field + " is a constant", field.getModifiers() == due && field.getType() == int.class);
                Integer want = face.constants.get(field.getName());
                CHECK.due(field.getName(), field.getInt(null), want == null ? 0 : want);
            }
        }
        CHECK.due("the constants are the document's: " + got, got.equals(new TreeSet<>(face.constants.keySet())));
    }

    private static void methods(Face face) {
        Set<String> want = new TreeSet<>();
        for (String head : face.heads) {
            want.add(head.replaceAll("int \\w+([,)])", "int$1").replace(" ", ""));
        }
        Set<String> got = new TreeSet<>();
        for (Method method : WeightedLaws.class.getDeclaredMethods()) {
            if (!Modifier.isPrivate(method.getModifiers())) {
                StringBuilder signs = new StringBuilder().append(method.getReturnType()).append(method.getName());
                for (int i = 0; i < method.getParameterCount(); i++) {
                    signs.append(i == 0 ? "(" : ",").append(method.getParameterTypes()[i]);
                }
                got.add(signs.append(method.getParameterCount() == 0 ? "()" : ")").toString());
                boolean isPlain = (method.getModifiers() & ~Modifier.FINAL) == Modifier.PUBLIC;
                CHECK.due(method + " is public, of an object", isPlain);
                CHECK.due(method + " tells no exception", method.getExceptionTypes().length, 0);
            }
        }
        CHECK.due("the methods are the document's: " + got, got.equals(want));
    }

    private static void classAndConstructor(String source) {
        CHECK.due("public and final", WeightedLaws.class.getModifiers() == (Modifier.PUBLIC | Modifier.FINAL));
        CHECK.due("without a package", WeightedLaws.class.getPackageName().isEmpty());
        CHECK.due("of no other class", WeightedLaws.class.getSuperclass() == Object.class);
        CHECK.due("of no interface", WeightedLaws.class.getInterfaces().length, 0);
        Constructor<?>[] constructors = WeightedLaws.class.getDeclaredConstructors();
        CHECK.due("one constructor", constructors.length, 1);
        CHECK.due("without numbers", constructors[0].getParameterCount(), 0);
        CHECK.due("public", Modifier.isPublic(constructors[0].getModifiers()));
        CHECK.due("written", source.contains("\n    public WeightedLaws() {\n"));
    }

    /** The file has the methods in the document's order, with its names of numbers and what the interface says. */
    private static void writtenAlike(Face face, String source) {
        int before = source.indexOf("public WeightedLaws()");
        for (String head : face.heads) {
            int place = source.indexOf("\n    public " + head + " {\n");
            CHECK.due(head + " is written so, in its order", place > before);
            String remark = face.remarks.get(Face.nameOf(head));
            if (remark != null) {
                int said = source.indexOf("\n    // " + remark + "\n");
                CHECK.due(remark + " is said ahead of " + head, said > before && said < place);
            }
            before = place;
        }
    }
}
