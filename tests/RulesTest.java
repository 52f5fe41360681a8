import java.lang.reflect.Constructor;
import java.lang.reflect.Field;
import java.lang.reflect.Method;
import java.lang.reflect.Modifier;
import java.nio.file.Files;
import java.nio.file.Path;
import java.util.HashSet;
import java.util.List;
import java.util.Set;
import java.util.TreeSet;
import java.util.regex.Matcher;
import java.util.regex.Pattern;

/** The rules of LANGUAGE.md that a machine can look at, and the face of the class. */
public final class RulesTest {
    private static int wrong;

    private static final List<String> FACE = List.of("int stretch(int,int)", "int way(int,int,boolean)",
        "int person(int,boolean,boolean,int)", "int feed(int,int,int,int,int)", "int end(int)", "int text()",
        "int fault(int)", "boolean by(int)", "int stray(int,int)", "int minute(int)", "boolean send(int,int)",
        "boolean gate(int,boolean)", "int split(int,int)", "int played(int)", "int day(int,int)", "int undo()",
        "int bunch(int,int)", "int ofPerson(int,int)", "int ofStretch(int,int)", "int ofWay(int,int)",
        "int takes(int,int)", "long where(int,int,int,boolean)", "int canCome(int)", "int stopped(int,int)",
        "int soon(int,int)", "int whom(int,int,int)", "int home(int)", "int seen(int,int)", "int which()",
        "long many(int,int,int,boolean)", "int after(int,int)", "int pays(int,int)", "int cheapest()",
        "boolean mending(int,int,int,int,int)", "int saved(int)", "int tried(int,boolean)", "int turned(int,boolean)",
        "int best()", "int image()", "int back()", "int about(int)");

    private static void must(boolean right, String what) {
        if (!right) {
            wrong++;
            System.out.println(what);
        }
    }

    private static void face() {
        Set<String> found = new TreeSet<>();
        Set<String> names = new HashSet<>();
        for (Method m : ElevenBullocks.class.getDeclaredMethods()) {
            if (Modifier.isPublic(m.getModifiers())) {
                StringBuilder s = new StringBuilder(m.getReturnType() + " " + m.getName() + "(");
                for (Class<?> p : m.getParameterTypes()) {
                    s.append(s.charAt(s.length() - 1) == '(' ? "" : ",").append(p);
                }
                found.add(s.append(")").toString());
                names.add(m.getName());
            }
        }
        must(found.equals(new TreeSet<>(FACE)), "the face is not the document's: " + found);
        for (Field f : ElevenBullocks.class.getDeclaredFields()) {
            must(Modifier.isPrivate(f.getModifiers()) || f.getName().equals("NONE"), "not private: " + f);
        }
        for (Constructor<?> c : ElevenBullocks.class.getDeclaredConstructors()) {
            must(Modifier.isPublic(c.getModifiers()) && c.getParameterCount() == 0, "a constructor too many: " + c);
        }
        must(Modifier.isFinal(ElevenBullocks.class.getModifiers()), "the class is not final");
        Class<?>[] inside = ElevenBullocks.class.getDeclaredClasses();
        must(inside.length < 12, "too many classes: " + (inside.length + 1));
        look(ElevenBullocks.class, names);
        for (Class<?> c : inside) {
            must(Modifier.isStatic(c.getModifiers()) && !Modifier.isPublic(c.getModifiers()), "a class inside: " + c);
            look(c, names);
        }
    }

    private static void look(Class<?> c, Set<String> names) {
        int fields = 0;
        for (Field f : c.getDeclaredFields()) {
            if (Modifier.isStatic(f.getModifiers())) {
                must(Modifier.isFinal(f.getModifiers()), "a static field that is not final: " + f);
            } else {
                fields++;
            }
        }
        must(fields <= 20, "too many fields: " + c);
        for (Method m : c.getDeclaredMethods()) {
            must(m.getParameterCount() <= 7, "too many parameters: " + m);
            boolean ofTheFace = c == ElevenBullocks.class && Modifier.isPublic(m.getModifiers());
            must(ofTheFace || !names.contains(m.getName()), "bears the name of a public one: " + m);
        }
    }

    private static void words(String source) {
        String code = source.replaceAll("(?s)/\\*.*?\\*/", "").replaceAll("//[^\\n]*", "")
            .replaceAll("\"[^\"\\n]*\"", "\"\"").replaceAll("'[^'\\n]'", "'x'");
        for (String word : List.of("throw", "throws", "try", "catch", "finally", "synchronized", "assert", "package",
            "double", "float", "Exception", "Object", "static \\{", "->", "::", "\"\" *\\+", "\\+ *\"\"")) {
            String pattern = word.matches("\\w+") ? "\\b" + word + "\\b" : word;
            must(!Pattern.compile(pattern).matcher(code).find(), "stands in the source: " + word);
        }
        Matcher imports = Pattern.compile("import ([\\w.*]+);").matcher(code);
        while (imports.find()) {
            must(imports.group(1).equals("java.util.Arrays"), "import " + imports.group(1));
        }
        Matcher calls = Pattern.compile("\\b(Arrays|System|Math|Integer|Long)\\.(\\w+)").matcher(code);
        while (calls.find()) {
            must(List.of("Arrays.fill", "System.arraycopy", "Math.max", "Math.min", "Integer.bitCount")
                .contains(calls.group()), "not of the library: " + calls.group());
        }
        for (int i = 0; i < source.length(); i++) {
            must(source.charAt(i) < 127, "a sign beyond 126 at " + i);
        }
    }

    /** Methods begin at one of two depths, and end at the same. */
    private static void lengths(List<String> lines) {
        int begin = -1;
        String indent = "";
        for (int i = 0; i < lines.size(); i++) {
            String line = lines.get(i);
            Matcher m = Pattern.compile("^( {4}| {8})[a-zA-Z][^=;]*\\) \\{$").matcher(line);
            if (m.find()) {
                begin = i;
                indent = m.group(1);
            } else if (begin >= 0 && line.equals(indent + "}")) {
                must(i - begin <= 60, "too long: " + lines.get(begin).trim());
                begin = -1;
            }
        }
    }

    public static void main(String[] args) throws Exception {
        Path source = Path.of("src/main/java/ElevenBullocks.java");
        face();
        words(Files.readString(source));
        lengths(Files.readAllLines(source));
        System.out.println(wrong == 0 ? "the rules are kept" : wrong + " rules are broken");
        if (wrong != 0) {
            System.exit(1);
        }
    }
}
