import java.io.IOException;
import java.lang.reflect.Constructor;
import java.lang.reflect.Field;
import java.lang.reflect.Method;
import java.lang.reflect.Modifier;
import java.nio.file.Files;
import java.nio.file.Path;
import java.util.ArrayList;
import java.util.List;
import java.util.Set;
import java.util.TreeSet;
import java.util.regex.Matcher;
import java.util.regex.Pattern;

/** The document's face, and the rules of LANGUAGE.md that can be looked for. */
public final class LanguageTest {
    private static final Path SOURCE = Path.of("src/main/java/AfterEachVowel.java");
    private static final Path DOCUMENT = Path.of("../shared/DOC.md");
    private static final String[] FACE = {
        "int learn(int,int)", "int rule(int,int,int)", "int then(int)", "int clear()", "int set(int,int,int)",
        "int told(int,int)", "int feed(int)", "int text()", "int force(int)", "int said(int,int)",
        "int turned(int,int,int)", "int of(int,int)", "int all(int)", "int leave(int)", "int order(int)",
        "int letter(int,int)", "int heard(int,int)", "int found(int,int,int,int)", "int alikeTexts()",
        "int film(int,int)", "int drawn(int)", "long chance(int,int,int)", "int image()", "int back()",
        "int count(int)", "int sheet(int,int,int)", "int cell(int,int,int)", "int copy(int,int,int,int,int)",
        "int rules(int,int,int,int)", "int taken(int,int)"};

    private LanguageTest() {
    }

    public static void main(String[] args) throws IOException {
        lookAtFace();
        if (Files.exists(DOCUMENT)) {
            lookAtDocument(Files.readString(DOCUMENT));
        }
        lookAtClasses();
        String code = withoutComments(Files.readString(SOURCE));
        lookForWords(code);
        lookAtMethods(code);
        Due.end("LanguageTest");
    }

    private static String signature(Method method) {
        StringBuilder text = new StringBuilder();
        for (Class<?> parameter : method.getParameterTypes()) {
            text.append(text.length() == 0 ? "" : ",").append(parameter.getName());
        }
        return method.getReturnType().getName() + " " + method.getName() + "(" + text + ")";
    }

    private static void lookAtFace() {
        Class<?> face = AfterEachVowel.class;
        Due.holds("public and final", Modifier.isPublic(face.getModifiers()) && Modifier.isFinal(face.getModifiers()));
        Set<String> wanted = new TreeSet<>(List.of(FACE));
        Set<String> names = new TreeSet<>();
        Set<String> found = new TreeSet<>();
        for (Method method : face.getDeclaredMethods()) {
            if (!Modifier.isPrivate(method.getModifiers())) {
                Due.holds("public: " + method, Modifier.isPublic(method.getModifiers()));
                found.add(signature(method));
                names.add(method.getName());
            }
        }
        Due.holds("methods " + found + ", due are " + wanted, found.equals(wanted));
        for (Class<?> any : withInner(face)) {
            for (Method method : any.getDeclaredMethods()) {
                Due.holds("no other method is called " + method,
                    Modifier.isPublic(method.getModifiers()) || !names.contains(method.getName()));
            }
        }
        Set<String> constants = new TreeSet<>();
        for (Field field : face.getDeclaredFields()) {
            if (!Modifier.isPrivate(field.getModifiers())) {
                constants.add(Modifier.toString(field.getModifiers()) + " " + field.getType() + " " + field.getName());
            }
        }
        Due.holds("constants " + constants, constants.equals(new TreeSet<>(List.of(
            "public static final int NONE", "public static final int BAD", "public static final int STATE",
            "public static final int FULL", "public static final long NO"))));
        Constructor<?>[] makers = face.getDeclaredConstructors();
        Due.holds("one constructor", makers.length == 1 && makers[0].getParameterCount() == 0
            && Modifier.isPublic(makers[0].getModifiers()));
    }

    /** That FACE, by which the class is measured, is still the document's. */
    private static void lookAtDocument(String document) {
        Set<String> methods = new TreeSet<>();
        Matcher method = Pattern.compile("(?m)^    public (int|long) (\\w+)\\((.*)\\);$").matcher(document);
        while (method.find()) {
            String types = method.group(3).replaceAll(" \\w+(, |$)", "$1").replace(", ", ",");
            methods.add(method.group(1) + " " + method.group(2) + "(" + types + ")");
        }
        Due.holds("the document's methods are " + methods, methods.equals(new TreeSet<>(List.of(FACE))));
        Set<String> constants = new TreeSet<>();
        Matcher row = Pattern.compile("(?m)^    public static final (?:int|long) (.*);$").matcher(document);
        while (row.find()) {
            constants.addAll(List.of(row.group(1).split(", ")));
        }
        Due.holds("the document's constants are " + constants, constants.equals(new TreeSet<>(List.of(
            "NONE = " + AfterEachVowel.NONE, "BAD = " + AfterEachVowel.BAD, "STATE = " + AfterEachVowel.STATE,
            "FULL = " + AfterEachVowel.FULL, "NO = " + AfterEachVowel.NO + "L"))));
    }

    private static List<Class<?>> withInner(Class<?> face) {
        List<Class<?>> all = new ArrayList<>(List.of(face));
        all.addAll(List.of(face.getDeclaredClasses()));
        return all;
    }

    private static void lookAtClasses() {
        List<Class<?>> all = withInner(AfterEachVowel.class);
        Due.holds("twelve classes at most: " + all.size(), all.size() <= 12);
        for (Class<?> any : all) {
            boolean inner = any != AfterEachVowel.class;
            int modifiers = any.getModifiers();
            Due.holds("static, not public: " + any, !inner || Modifier.isStatic(modifiers)
                && !Modifier.isPublic(modifiers) && !Modifier.isProtected(modifiers));
            Due.holds("no class deeper inside: " + any, !inner || any.getDeclaredClasses().length == 0);
            int fields = 0;
            for (Field field : any.getDeclaredFields()) {
                if (Modifier.isStatic(field.getModifiers())) {
                    Due.holds("a static field is final: " + field, Modifier.isFinal(field.getModifiers()));
                } else {
                    fields++;
                }
            }
            Due.holds("twenty fields at most: " + any, fields <= 20);
            for (Method method : any.getDeclaredMethods()) {
                Due.holds("seven parameters at most: " + method, method.getParameterCount() <= 7);
                Due.holds("none is made by the compiler: " + method, !method.isSynthetic());
            }
        }
    }

    /** Comments and texts can hold any word. */
    private static String withoutComments(String source) {
        return source.replaceAll("(?s)/\\*.*?\\*/", "").replaceAll("//[^\n]*", "").replaceAll("\"[^\"\n]*\"", "\"\"");
    }

    private static void lookForWords(String code) {
        String[] banned = {
            "throw", "throws", "try", "catch", "finally", "synchronized", "assert", "import", "package", "native",
            "volatile", "transient", "strictfp", "yield", "var", "goto", "hashCode", "equals", "toString", "getClass",
            "Object", "Thread", "Runtime", "Random", "nanoTime", "currentTimeMillis", "double", "float"};
        for (String word : banned) {
            Due.holds("no " + word, !Pattern.compile("\\b" + word + "\\b").matcher(code).find());
        }
        Due.holds("no lambda", !code.contains("->"));
        Due.holds("no method reference", !code.contains("::"));
        Due.holds("no static block", !Pattern.compile("static\\s*\\{").matcher(code).find());
        Due.holds("no array of objects of two dimensions", !Pattern.compile("\\b[A-Z]\\w*\\[\\]\\[\\]").matcher(code).find());
        Matcher library = Pattern.compile("\\b(System|Math|Arrays|Integer|Long)\\.(\\w+)").matcher(code);
        Set<String> allowed = Set.of("System.arraycopy", "Math.min", "Math.max");
        while (library.find()) {
            Due.holds("of the library: " + library.group(), allowed.contains(library.group()));
        }
        for (int i = 0; i < code.length(); i++) {
            if (code.charAt(i) > 126) {
                Due.holds("signs up to 126", false);
            }
        }
    }

    private static void lookAtMethods(String code) {
        Matcher head = Pattern.compile("(?m)^( {4,8})(?! )[^\n;=]*\\([^\n;]*\\) \\{$").matcher(code);
        int methods = 0;
        while (head.find()) {
            int end = code.indexOf("\n" + head.group(1) + "}", head.end());
            long lines = code.substring(head.start(), end).lines().count();
            methods++;
            Due.holds("sixty lines at most: " + head.group().strip(), lines <= 60);
        }
        Due.holds("methods were looked at: " + methods, methods > 100);
        Due.holds("a while has a counter", !Pattern.compile("while \\((?!\\w+ < \\w+ &&)").matcher(code).find());
    }
}
