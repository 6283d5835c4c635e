import java.lang.reflect.Array;
import java.lang.reflect.Constructor;
import java.lang.reflect.Field;
import java.lang.reflect.Method;
import java.lang.reflect.Modifier;
import java.nio.file.Files;
import java.nio.file.Path;
import java.util.ArrayDeque;
import java.util.Deque;
import java.util.IdentityHashMap;
import java.util.Map;
import java.util.Set;
import java.util.TreeSet;

/** The public face is the document's, and one gallery keeps few objects and elements. */
public final class FaceTest {
    private static final Path DOCUMENT = Path.of("..", "shared", "DOC.md");

    public static void main(String[] args) throws Exception {
        Set<String> due = documentFace();
        Set<String> found = classFace();
        Checks.due("calls and constants of the document", true, () -> due.size() > 60);
        for (String member : due) {
            Checks.due(member, true, () -> found.contains(member));
        }
        for (String member : found) {
            Checks.due(member + " is in the document", true, () -> due.contains(member));
        }
        Checks.due("the class is final", true, () -> Modifier.isFinal(AvalancheGallery.class.getModifiers()));
        onlyPrivateBeside();
        keepsLittle();
        Checks.finish("FaceTest");
    }

    private static Set<String> documentFace() throws Exception {
        Set<String> face = new TreeSet<>();
        String document = Files.readString(DOCUMENT);
        String block = document.substring(document.indexOf("```java"), document.indexOf("## Terms"));
        for (String line : block.split("\n")) {
            if (line.startsWith("    public ")) {
                face.add(line.trim().replace(";", "").replaceAll("\\b(int|char) \\w+(?=[,)])", "$1"));
            }
        }
        return face;
    }

    private static Set<String> classFace() throws Exception {
        Set<String> face = new TreeSet<>();
        for (Field field : AvalancheGallery.class.getDeclaredFields()) {
            if (Modifier.isPublic(field.getModifiers())) {
                face.add("public static final int " + field.getName() + " = " + field.getInt(null));
            }
        }
        for (Constructor<?> constructor : AvalancheGallery.class.getDeclaredConstructors()) {
            face.add("public " + constructor.getName() + names(constructor.getParameterTypes(), "(", ")"));
        }
        for (Method method : AvalancheGallery.class.getDeclaredMethods()) {
            if (Modifier.isPublic(method.getModifiers())) {
                String thrown = names(method.getExceptionTypes(), " throws ", "");
                face.add("public " + method.getReturnType().getSimpleName() + " " + method.getName()
                        + names(method.getParameterTypes(), "(", ")")
                        + (method.getExceptionTypes().length == 0 ? "" : thrown));
            }
        }
        return face;
    }

    private static String names(Class<?>[] types, String before, String after) {
        StringBuilder names = new StringBuilder(before);
        for (Class<?> type : types) {
            names.append(names.length() > before.length() ? ", " : "").append(type.getSimpleName());
        }
        return names.append(after).toString();
    }

    private static void onlyPrivateBeside() {
        for (Field field : AvalancheGallery.class.getDeclaredFields()) {
            boolean own = Modifier.isPublic(field.getModifiers()) || Modifier.isPrivate(field.getModifiers());
            Checks.due("field " + field.getName(), true, () -> own);
        }
        for (Method method : AvalancheGallery.class.getDeclaredMethods()) {
            boolean own = Modifier.isPublic(method.getModifiers()) || Modifier.isPrivate(method.getModifiers());
            Checks.due("method " + method.getName(), true, () -> own || method.isSynthetic());
        }
    }

    /** Counts what hangs on one gallery after a run of its dearest calls. */
    private static void keepsLittle() throws Exception {
        AvalancheGallery gallery = new AvalancheGallery();
        for (int call = 0; call < 512; call++) {
            gallery.passDays(1);
        }
        Map<Object, Object> seen = new IdentityHashMap<>();
        Deque<Object> open = new ArrayDeque<>();
        open.add(gallery);
        int elements = 0;
        while (!open.isEmpty()) {
            Object object = open.pop();
            if (seen.put(object, object) == null) {
                elements += object.getClass().isArray() ? elementsOf(object, open) : fieldsOf(object, open);
            }
        }
        int all = elements;
        Checks.due("objects " + seen.size(), true, () -> seen.size() > 10 && seen.size() < 1000);
        Checks.due("elements " + all, true, () -> all > 10 && all < 20000);
    }

    private static int elementsOf(Object array, Deque<Object> open) {
        int length = Array.getLength(array);
        if (!array.getClass().getComponentType().isPrimitive()) {
            for (int index = 0; index < length; index++) {
                addTo(open, Array.get(array, index));
            }
        }
        return length;
    }

    private static int fieldsOf(Object object, Deque<Object> open) throws Exception {
        int count = 0;
        for (Field field : object.getClass().getDeclaredFields()) {
            if (!Modifier.isStatic(field.getModifiers()) && object.getClass().getName().startsWith("Avalanche")) {
                count++;
                field.setAccessible(true);
                if (!field.getType().isPrimitive()) {
                    addTo(open, field.get(object));
                }
            }
        }
        return count;
    }

    private static void addTo(Deque<Object> open, Object object) {
        if (object != null) {
            open.add(object);
        }
    }
}
