import java.io.IOException;
import java.lang.reflect.Constructor;
import java.lang.reflect.Field;
import java.lang.reflect.Method;
import java.lang.reflect.Modifier;
import java.nio.file.Path;
import java.util.Set;
import java.util.TreeSet;

/** "The public face": the class has the constants, the constructor and the methods of the document, and no other. */
public final class FaceTest {
    private static final Path DOCUMENT = Path.of("..", "shared", "DOC.md");

    private FaceTest() {
    }

    public static void main(String[] arguments) throws IOException {
        Set<String> face = new TreeSet<>();
        Set<String> promised = new TreeSet<>();
        Document document = Document.read(DOCUMENT);
        for (String line : document.under("The public face").split("\n")) {
            if (line.startsWith("    public ")) {
                face.add(withoutNames(line.strip()));
            }
        }
        for (String heading : document.headings()) {
            String text = document.under(heading);
            if (heading.startsWith("Promise ")) {
                promised.add(withoutNames("public " + text.substring(text.indexOf('`') + 1, text.indexOf("`:")) + ";"));
            }
        }
        Set<String> own = membersOf(SeaMill.class);
        for (String member : face) {
            Check.due(member + " is there", 1, own.contains(member) ? 1 : 0);
        }
        for (String member : own) {
            Check.due(member + " is in the document", 1, face.contains(member) ? 1 : 0);
        }
        for (String member : promised) {
            Check.due(member + " is in the face", 1, face.contains(member) ? 1 : 0);
        }
        Check.due("32 promises", 32, promised.size());
        Check.due("the class is public and final", Modifier.PUBLIC | Modifier.FINAL, SeaMill.class.getModifiers());
        Check.end("FaceTest");
    }

    /** A member of the document without the names of its parameters. */
    private static String withoutNames(String member) {
        return member.replaceAll("int \\w+(?=[,)])", "int");
    }

    /** Everything of a class that is not private, written as the document writes it. */
    private static Set<String> membersOf(Class<?> type) throws IOException {
        Set<String> members = new TreeSet<>();
        for (Method method : type.getDeclaredMethods()) {
            if (!Modifier.isPrivate(method.getModifiers()) && !method.isSynthetic()) {
                members.add(modifiersOf(method.getModifiers()) + method.getReturnType() + " " + method.getName()
                    + parameters(method.getParameterTypes()));
            }
        }
        for (Constructor<?> constructor : type.getDeclaredConstructors()) {
            if (!Modifier.isPrivate(constructor.getModifiers())) {
                members.add(modifiersOf(constructor.getModifiers()) + constructor.getName()
                    + parameters(constructor.getParameterTypes()));
            }
        }
        for (Field field : type.getDeclaredFields()) {
            if (!Modifier.isPrivate(field.getModifiers())) {
                members.add(modifiersOf(field.getModifiers()) + field.getType() + " " + field.getName() + " = "
                    + valueOf(field) + ";");
            }
        }
        return members;
    }

    private static String modifiersOf(int modifiers) {
        String words = Modifier.toString(modifiers);
        return words.isEmpty() ? "" : words + " ";
    }

    private static String parameters(Class<?>[] types) {
        StringBuilder list = new StringBuilder("(");
        for (Class<?> type : types) {
            list.append(list.length() > 1 ? ", " : "").append(type);
        }
        return list.append(");").toString();
    }

    private static String valueOf(Field field) throws IOException {
        try {
            return String.valueOf(field.get(null));
        } catch (IllegalAccessException refused) {
            throw new IOException(refused);
        }
    }
}
