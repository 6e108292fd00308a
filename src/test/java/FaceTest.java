import java.lang.reflect.Constructor;
import java.lang.reflect.Field;
import java.lang.reflect.Method;
import java.lang.reflect.Modifier;
import java.nio.file.Files;
import java.nio.file.Path;
import java.util.Arrays;
import java.util.Set;
import java.util.TreeSet;
import java.util.regex.Matcher;
import java.util.regex.Pattern;

/** The class shows exactly the face that the document prints, and keeps to rules that can be seen. */
public final class FaceTest {
    private static final Pattern METHOD =
            Pattern.compile("( {4}| {8})(?=\\S)(?!.*\\bclass ).*[(,].*");

    public static void main(String[] args) throws Exception {
        face();
        classesInside();
        String source = Files.readString(Path.of("src/main/java/PastureBanker.java"));
        library(source);
        exceptions(source.replaceAll("(?s)/\\*.*?\\*/|//[^\n]*", ""));
        lengths(source.split("\n"));
        Check.finish("FaceTest");
    }

    private static String documentFace() throws Exception {
        String text = Files.readString(Path.of("../shared/DOC.md"));
        int from = text.indexOf("public final class PastureBanker {");
        return text.substring(from, text.indexOf("```", from));
    }

    private static void face() throws Exception {
        Set<String> want = new TreeSet<>();
        Matcher call = Pattern.compile("public (\\w+) (\\w+)\\(([^)]*)\\)(?: throws ([^;]+))?;")
                .matcher(documentFace());
        while (call.find()) {
            want.add(call.group(2) + " " + call.group(1) + " " + types(call.group(3)) + " "
                    + sorted(call.group(4) == null ? "" : call.group(4)));
        }
        Set<String> got = new TreeSet<>();
        Set<String> hidden = new TreeSet<>();
        for (Method method : PastureBanker.class.getDeclaredMethods()) {
            int how = method.getModifiers();
            if (Modifier.isPrivate(how) || method.isSynthetic()) {
                hidden.add(method.getName());
            } else {
                got.add(method.getName() + " " + method.getReturnType().getSimpleName() + " "
                        + parameters(method.getParameterTypes()) + " "
                        + parametersSorted(method.getExceptionTypes()));
                Check.due(method.getName() + " is public, no more", Modifier.PUBLIC, () -> how);
            }
        }
        Check.due("methods of the face", want, () -> got);
        Check.due("59 promises but the constructor's", 58, () -> want.size());
        for (String line : want) {
            String name = line.substring(0, line.indexOf(' '));
            Check.due("private " + name, false, () -> hidden.contains(name));
        }
        Constructor<?>[] constructors = PastureBanker.class.getDeclaredConstructors();
        Check.due("constructors", 1, () -> constructors.length);
        Check.due("constructor", "public PastureBanker()", () -> constructors[0].toString());
        Check.due("class", Modifier.PUBLIC | Modifier.FINAL,
                () -> PastureBanker.class.getModifiers());
        Check.due("NONE", -1, () -> PastureBanker.NONE);
        for (Field field : PastureBanker.class.getDeclaredFields()) {
            boolean isConstant = field.getName().equals("NONE");
            Check.due("field " + field.getName(), !isConstant,
                    () -> Modifier.isPrivate(field.getModifiers()));
        }
    }

    private static String types(String parameters) {
        if (parameters.isEmpty()) {
            return "[]";
        }
        String[] parts = parameters.split(", ");
        for (int index = 0; index < parts.length; index++) {
            parts[index] = parts[index].substring(0, parts[index].indexOf(' '));
        }
        return Arrays.toString(parts);
    }

    private static String sorted(String exceptions) {
        String[] parts = exceptions.isEmpty() ? new String[0] : exceptions.trim().split(", ");
        Arrays.sort(parts);
        return Arrays.toString(parts);
    }

    private static String parameters(Class<?>[] types) {
        return Arrays.toString(Arrays.stream(types).map(Class::getSimpleName).toArray());
    }

    private static String parametersSorted(Class<?>[] types) {
        return Arrays.toString(Arrays.stream(types).map(Class::getSimpleName).sorted().toArray());
    }

    private static void classesInside() {
        Class<?>[] inside = PastureBanker.class.getDeclaredClasses();
        Check.due("at most twelve classes", true, () -> inside.length + 1 <= 12);
        checkFields(PastureBanker.class);
        checkMethods(PastureBanker.class, Set.of());
        Set<String> face = new TreeSet<>();
        for (Method method : PastureBanker.class.getMethods()) {
            face.add(method.getName());
        }
        for (Class<?> one : inside) {
            int how = one.getModifiers();
            Check.due(one + " is static and not public", true,
                    () -> Modifier.isStatic(how) && !Modifier.isPublic(how)
                            && !Modifier.isProtected(how));
            checkFields(one);
            checkMethods(one, face);
        }
    }

    private static void checkMethods(Class<?> one, Set<String> otherNames) {
        for (Method method : one.getDeclaredMethods()) {
            Check.due(method + " has at most seven parameters", true,
                    () -> method.getParameterCount() <= 7);
            Check.due(method + " bears a name of the face", false,
                    () -> otherNames.contains(method.getName()));
        }
    }

    private static void checkFields(Class<?> one) {
        int count = 0;
        for (Field field : one.getDeclaredFields()) {
            if (Modifier.isStatic(field.getModifiers())) {
                Check.due(field + " is final", true, () -> Modifier.isFinal(field.getModifiers()));
            } else {
                count++;
            }
        }
        boolean few = count <= 20;
        Check.due(one + " has at most twenty fields", true, () -> few);
    }

    /** The words of the source that rules 2 to 6, 10 and 13 of LANGUAGE.md leave out. */
    private static void library(String source) {
        String[] never = {"->", "::", "catch", "finally", "synchronized", "assert ", "instanceof",
            "Exact(", "java.util.concurrent", "Thread", "System.nanoTime", "System.currentTime",
            "System.out", "Random", "File", "import java.io", "import java.nio", "hashCode",
            "toString", "HashMap", "String.format", "package ", "\" +", "+ \"", "static {"};
        for (String word : never) {
            Check.due("the source holds <" + word + ">", false, () -> source.contains(word));
        }
        Check.due("imports", source.indexOf("import "), () -> source.lastIndexOf("import "));
        Check.due("characters 1 to 127 only", true,
                () -> source.chars().allMatch(sign -> sign >= 1 && sign <= 127));
    }

    /** Each throw of the code makes an exception of rule 6 with a written text. */
    private static void exceptions(String code) {
        Matcher each = Pattern.compile("\\bthrow\\b[^;]*;").matcher(code);
        while (each.find()) {
            String line = each.group();
            Check.due("<" + line + ">", true, () -> line.matches("throw new (IllegalState|"
                    + "IllegalArgument|IndexOutOfBounds|NoSuchElement)Exception\\(\"[^\"]*\"\\);"));
        }
    }

    /** A method begins with a line that opens a brace and ends with the brace below its first sign. */
    private static void lengths(String[] lines) {
        int methods = 0;
        for (int first = 0; first < lines.length; first++) {
            String line = lines[first];
            Matcher head = METHOD.matcher(line);
            if (head.matches() && !line.contains(";") && !line.contains("*")) {
                int last = first;
                while (!lines[last].equals(head.group(1) + "}")) {
                    last++;
                }
                int length = last - first + 1;
                Check.due("<" + line + "> has at most sixty lines", true, () -> length <= 60);
                methods++;
                first = last;
            }
        }
        int found = methods;
        Check.due("methods found", true, () -> found > 150);
    }
}
