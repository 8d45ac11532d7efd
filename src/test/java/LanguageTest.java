import java.io.IOException;
import java.lang.reflect.Field;
import java.lang.reflect.Method;
import java.lang.reflect.Modifier;
import java.nio.charset.StandardCharsets;
import java.nio.file.Files;
import java.nio.file.Path;
import java.util.Arrays;
import java.util.HashSet;
import java.util.Set;
import java.util.TreeSet;
import java.util.regex.Matcher;
import java.util.regex.Pattern;

/** The public face, and the rules of LANGUAGE.md that can be seen from the source or by reflection. */
public final class LanguageTest {
    private static final String[] FACE = {
        "int sea(int,int,int,int)", "int stream(int,int,int,int,int,boolean)", "int salt(int,int,int,int)",
        "int cell(int,int,int,int)", "int glider(int,int,int,int)", "int about(int,int)", "int can(int,int)",
        "int leak(int,boolean)", "int dive(int,int,int,int)", "int fault(int)", "int order(int)", "int letter(int,int)",
        "int waiting(int)", "int deaf(int,boolean)", "int rule(int)", "int times(int)", "int known(int,int)",
        "int clean(int,int)", "int reading(int,int)", "long read(int,boolean)", "int plan(int)", "int planned(int,int)",
        "int ends(int,int,int,int)", "int whole(int)", "int ship(int,int)", "int left(int)", "int next()",
        "int fetch(int)", "int image()", "int restore()", "int count(int)", "int keep(int,int,int)",
        "int row(int,int,int)", "int put(int,int,int)", "long element(int,int)", "int copy(int,int,int,int,int)",
        "int sum(int)", "int toss(int)"};

    public static void main(String[] args) throws IOException {
        face();
        names();
        fields();
        source();
        Due.end();
    }

    private static void face() {
        Set<String> due = new TreeSet<>(Arrays.asList(FACE));
        Set<String> got = new TreeSet<>();
        for (Method m : DeepWings.class.getDeclaredMethods()) {
            if (!Modifier.isPrivate(m.getModifiers())) {
                StringBuilder s = new StringBuilder(m.getReturnType() + " " + m.getName() + "(");
                for (int i = 0; i < m.getParameterCount(); i++) {
                    s.append(i > 0 ? "," : "").append(m.getParameterTypes()[i]);
                }
                got.add(s.append(")").toString());
                Due.isTrue("public " + m, Modifier.isPublic(m.getModifiers()) && !Modifier.isStatic(m.getModifiers()));
            }
        }
        Due.same("the face", got.toString(), due.toString());
        Due.isTrue("final", Modifier.isFinal(DeepWings.class.getModifiers()));
        Due.is("constructors", DeepWings.class.getDeclaredConstructors().length, 1);
        Due.is("constructors", DeepWings.class.getConstructors().length, 1);
    }

    private static void names() {
        Set<String> taken = new HashSet<>();
        for (String call : FACE) {
            taken.add(call.substring(call.indexOf(' ') + 1, call.indexOf('(')));
        }
        for (Class<?> c : DeepWings.class.getDeclaredClasses()) {
            Due.isTrue("static " + c, Modifier.isStatic(c.getModifiers()) && !Modifier.isPublic(c.getModifiers()));
            for (Method m : c.getDeclaredMethods()) {
                Due.isTrue("name " + m, !taken.contains(m.getName()));
                Due.isTrue("parameters " + m, m.getParameterCount() <= 7);
            }
        }
        for (Method m : DeepWings.class.getDeclaredMethods()) {
            Due.isTrue("name " + m, !Modifier.isPrivate(m.getModifiers()) || !taken.contains(m.getName()));
            Due.isTrue("parameters " + m, m.getParameterCount() <= 7);
        }
        Due.isTrue("classes", DeepWings.class.getDeclaredClasses().length < 12);
    }

    private static void fields() {
        for (Field f : DeepWings.class.getDeclaredFields()) {
            Due.isTrue("private " + f, Modifier.isPrivate(f.getModifiers()));
            Due.isTrue("final static " + f, !Modifier.isStatic(f.getModifiers()) || Modifier.isFinal(f.getModifiers()));
        }
        for (Class<?> c : DeepWings.class.getDeclaredClasses()) {
            Due.isTrue("fields of " + c, c.getDeclaredFields().length <= 20);
            for (Field f : c.getDeclaredFields()) {
                Due.isTrue("no static " + f, !Modifier.isStatic(f.getModifiers()));
            }
        }
    }

    private static void source() throws IOException {
        String raw = Files.readString(Path.of("src/main/java/DeepWings.java"), StandardCharsets.UTF_8);
        for (char c : raw.toCharArray()) {
            Due.isTrue("sign " + (int) c, c == '\n' || (c >= 32 && c < 127));
        }
        String s = raw.replaceAll("(?s)/\\*.*?\\*/", "").replaceAll("//[^\n]*", "").replaceAll("\"[^\"\n]*\"", "\"\"");
        String[] words = {"->", "::", "synchronized", "assert ", "finally", "getMessage", "package ", "Exact\\(",
            "double", "float", "static \\{", "Object", "Random", "Thread", "String.format", "printStackTrace"};
        for (String word : words) {
            Due.isTrue("no " + word, !Pattern.compile(word).matcher(s).find());
        }
        only(s, "import ([\\w.]+);", "java.util.Arrays");
        only(s, "\\bSystem\\.(\\w+)", "arraycopy");
        only(s, "\\bArrays\\.(\\w+)", "fill");
        only(s, "\\bMath\\.(\\w+)", "abs", "min", "max");
        only(s, "\\bthrow (new \\w+)", "new IllegalArgumentException", "new IllegalStateException",
            "new UnsupportedOperationException");
        only(s, "\\bcatch \\((\\w+)", "IllegalStateException", "UnsupportedOperationException");
        methodLengths(s);
    }

    private static void only(String s, String pattern, String... allowed) {
        Matcher m = Pattern.compile(pattern).matcher(s);
        while (m.find()) {
            Due.isTrue(m.group(), Arrays.asList(allowed).contains(m.group(1)));
        }
    }

    private static void methodLengths(String s) {
        int start = 0;
        String[] lines = s.split("\n");
        for (int i = 0; i < lines.length; i++) {
            if (lines[i].matches(" {4,8}\\w.*\\) (throws .*)?\\{")) {
                start = i;
            }
            if (lines[i].matches(" {4,8}\\}")) {
                Due.isTrue("method up to line " + i, start == 0 || i - start <= 60 || lines[i].startsWith("    }"));
            }
        }
    }
}
