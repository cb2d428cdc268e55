import java.io.DataInputStream;
import java.io.IOException;
import java.io.InputStream;
import java.lang.reflect.Field;
import java.lang.reflect.Method;
import java.lang.reflect.Modifier;
import java.nio.file.Files;
import java.nio.file.Path;
import java.util.Arrays;
import java.util.HashMap;
import java.util.Map;
import java.util.Set;
import java.util.TreeSet;
import java.util.regex.Matcher;
import java.util.regex.Pattern;

/** The rules of ../shared/LANGUAGE.md that the source's words and the compiled classes can tell. */
final class LanguageTest {
    private static final String[] RULED_OUT = {"\\bthrow\\b", "\\btry\\b", "\\bcatch\\b", "\\bfinally\\b",
        "\\bassert\\b", "\\bsynchronized\\b", "->", "::", "\\bimport\\b", "\\bpackage\\b", "\\bequals\\b",
        "\\bhashCode\\b", "\\btoString\\b", "\\bprotected\\b", "\\b\\w+Exact\\b", "\\bstatic\\s*\\{", "\\bwhile\\b"};
    /** Of the library the class needs these alone, which rule 4 lists; more may be added from there. */
    private static final Set<String> LIBRARY = Set.of("java/lang/Object", "java/lang/Math");
    private static final Set<String> TYPES = Set.of("int", "long", "boolean", "int[]", "long[]", "boolean[]");
    private static final Class<?> FACE = PopularMatchings.class;

    public static void main(String[] args) throws Exception {
        String source = withoutComments(Files.readString(Path.of(System.getProperty("source"))));
        for (String word : RULED_OUT) {
            Check.due("in the source: " + word, Pattern.compile(word).matcher(source).find() ? 1 : 0, 0);
        }
        objectsAreMadeInConstructors(source);
        staticFieldsAreFinal(source);
        methodsAreShort(source);
        Check.due("signs beyond 127", source.chars().filter(sign -> sign > 127).count(), 0);
        classesInside();
        for (Class<?> each : FACE.getNestMembers()) {
            methodsOf(each);
            fieldsOf(each);
            libraryOf(each);
        }
        Check.end("LanguageTest");
    }

    private static void holds(String what, boolean so) {
        Check.due(what, so ? 1 : 0, 1);
    }

    private static String withoutComments(String source) {
        return source.replaceAll("(?s)/\\*.*?\\*/", "").replaceAll("//.*", "");
    }

    /** All objects are made by constructors and initialisers, so a call makes none. */
    private static void objectsAreMadeInConstructors(String source) {
        Matcher made = Pattern.compile("(?m)^(.*)\\bnew\\b.*$").matcher(source);
        while (made.find()) {
            String before = made.group(1).trim();
            boolean inConstructor = before.matches("(private )?final [\\w\\[\\]]+ \\w+ =")
                    || before.matches("(instance|present|saved|draft|history|challengers|populars) =")
                    || before.matches("(presents|saveds)\\[edit\\] =");
            holds("made in a constructor: " + made.group().trim(), inConstructor);
        }
    }

    private static void staticFieldsAreFinal(String source) {
        Matcher field = Pattern.compile("(?m)^.*\\bstatic\\b[^(]*=.*$").matcher(source);
        while (field.find()) {
            holds("final: " + field.group().trim(), field.group().contains(" final "));
        }
    }

    /** Rule 11: "some sixty lines". A method ends at the brace below its first letter. */
    private static void methodsAreShort(String source) {
        Matcher method = Pattern.compile("(?ms)^( {4}| {8})(\\w[^=;{}]*\\([^;{}]*\\)) \\{$.*?^\\1\\}$").matcher(source);
        int methods = 0;
        while (method.find()) {
            holds("short: " + method.group(2), method.group().lines().count() <= 60);
            methods++;
        }
        holds("methods are found in the source", methods > 40);
    }

    /** Rules 1, 2 and 11: static, not public, named, and some twelve at most with the class itself. */
    private static void classesInside() {
        Set<Class<?>> named = Set.of(FACE.getDeclaredClasses());
        for (Class<?> each : FACE.getNestMembers()) {
            holds("a class inside, or the class itself: " + each, each == FACE || named.contains(each));
        }
        for (Class<?> inside : named) {
            int form = inside.getModifiers();
            holds("static: " + inside, Modifier.isStatic(form));
            holds("private or package-visible: " + inside, !Modifier.isPublic(form) && !Modifier.isProtected(form));
        }
        holds("some twelve classes", FACE.getNestMembers().length <= 12);
    }

    /** Rules 1 and 11: no private method bears the name of a public one; at most seven parameters. */
    private static void methodsOf(Class<?> owner) {
        Set<String> publicNames = new TreeSet<>();
        for (Method method : FACE.getDeclaredMethods()) {
            if (Modifier.isPublic(method.getModifiers())) {
                publicNames.add(method.getName());
            }
        }
        for (Method method : owner.getDeclaredMethods()) {
            boolean isPublic = Modifier.isPublic(method.getModifiers());
            holds("a name of its own: " + method, isPublic || !publicNames.contains(method.getName()));
            holds("seven parameters at most: " + method, method.getParameterCount() <= 7);
            holds("written by hand: " + method, !method.isSynthetic());
        }
    }

    /** Rules 3, 5 and 11: what a field may be, and some twenty of them beside the constants. */
    private static void fieldsOf(Class<?> owner) {
        int fields = 0;
        for (Field field : owner.getDeclaredFields()) {
            Class<?> type = field.getType();
            Class<?> element = type.isArray() ? type.getComponentType() : type;
            boolean own = Arrays.asList(FACE.getNestMembers()).contains(element);
            boolean isStatic = Modifier.isStatic(field.getModifiers());
            holds("of a listed type: " + field, own || TYPES.contains(type.getSimpleName()));
            holds("no state without an object: " + field,
                    !isStatic || (Modifier.isFinal(field.getModifiers()) && !own));
            fields += isStatic ? 0 : 1;
        }
        holds("some twenty fields: " + owner, fields <= 20);
    }

    /** Rule 4: "only what stands here". */
    private static void libraryOf(Class<?> owner) throws IOException {
        for (String used : classesUsedBy(owner)) {
            boolean own = used.equals("PopularMatchings") || used.startsWith("PopularMatchings$");
            holds(owner + " uses " + used, own || used.startsWith("[") || LIBRARY.contains(used));
        }
    }

    /** The classes that the constant pool of a class file names (Java Virtual Machine Specification, 4.4). */
    private static Set<String> classesUsedBy(Class<?> owner) throws IOException {
        Map<Integer, String> texts = new HashMap<>();
        Set<Integer> classes = new TreeSet<>();
        try (InputStream bytes = owner.getResourceAsStream(owner.getName() + ".class");
                DataInputStream in = new DataInputStream(bytes)) {
            in.skipBytes(8);
            int count = in.readUnsignedShort();
            for (int i = 1; i < count; i++) {
                int tag = in.readUnsignedByte();
                switch (tag) {
                    case 1: texts.put(i, in.readUTF()); break;
                    case 7: classes.add(in.readUnsignedShort()); break;
                    case 8: case 16: case 19: case 20: in.skipBytes(2); break;
                    case 15: in.skipBytes(3); break;
                    case 5: case 6: in.skipBytes(8); i++; break;
                    default: in.skipBytes(4); break;
                }
            }
        }
        Set<String> names = new TreeSet<>();
        for (int at : classes) {
            names.add(texts.get(at));
        }
        return names;
    }
}
