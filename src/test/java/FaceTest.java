import java.io.IOException;
import java.lang.reflect.Constructor;
import java.lang.reflect.Field;
import java.lang.reflect.Member;
import java.lang.reflect.Method;
import java.lang.reflect.Modifier;
import java.nio.file.Files;
import java.nio.file.Path;
import java.util.Arrays;
import java.util.Set;
import java.util.TreeSet;
import java.util.regex.Matcher;
import java.util.regex.Pattern;

/** The public face, and of ../shared/LANGUAGE.md what can be looked at from outside. */
public final class FaceTest {
    private static final Path SOURCE = Path.of("src/main/java/HallOfClaims.java");
    private static final String[] FACE = {
        "int letter(int)", "int hall()", "int claims(int,int,int)", "int turns(int)", "int kind(int,int,int)",
        "int attacks(int,int)", "int supports(int,int)", "int mode(int)", "int claim(int,int)", "int label(int)",
        "int turn(int)", "int sets(int,int)", "int among(int,int,int)", "int ideal()", "int game(int,int)",
        "int answer(int,int)", "int changes(int,int)", "int without(int)", "int spare(int)",
        "long missing(int,int,int)", "int whatIs(int,int)", "int row(int)", "int judge()", "int clear()",
        "int speakers(int,int)", "int lots(int,int,int)", "int image()", "int on()", "int count(int)",
    };

    private FaceTest() {
    }

    public static void main(String[] args) throws IOException {
        face();
        insideClasses();
        source(Files.readString(SOURCE));
        Checks.end();
    }

    private static void face() {
        Set<String> found = new TreeSet<>();
        Set<String> names = new TreeSet<>();
        for (Method method : HallOfClaims.class.getDeclaredMethods()) {
            if (Modifier.isPublic(method.getModifiers())) {
                String text = method.toString();
                found.add(method.getReturnType() + " " + text.substring(text.indexOf("HallOfClaims.") + 13));
                names.add(method.getName());
                Checks.holds("not static: " + method, !Modifier.isStatic(method.getModifiers()));
            }
        }
        Checks.holds("the face is " + found, found.equals(new TreeSet<>(Arrays.asList(FACE))));
        for (Method method : HallOfClaims.class.getDeclaredMethods()) {
            if (!Modifier.isPublic(method.getModifiers())) {
                onlyPrivate(method);
                Checks.holds("no public name: " + method, !names.contains(method.getName()));
            }
        }
        for (Field field : HallOfClaims.class.getDeclaredFields()) {
            onlyPrivate(field);
            Checks.holds("static, so final: " + field,
                    !Modifier.isStatic(field.getModifiers()) || Modifier.isFinal(field.getModifiers()));
        }
        Constructor<?>[] constructors = HallOfClaims.class.getDeclaredConstructors();
        Checks.due("constructors", constructors.length, 1);
        Checks.holds("a public constructor", Modifier.isPublic(constructors[0].getModifiers()));
        Checks.holds("a final class", Modifier.isFinal(HallOfClaims.class.getModifiers()));
        for (Class<?> inside : HallOfClaims.class.getDeclaredClasses()) {
            for (Method method : inside.getDeclaredMethods()) {
                Checks.holds("no public name: " + method, !names.contains(method.getName()));
                Checks.holds("seven parameters at most: " + method, method.getParameterCount() <= 7);
            }
        }
    }

    private static void onlyPrivate(Member member) {
        Checks.holds("private: " + member, Modifier.isPrivate(member.getModifiers()));
    }

    private static void insideClasses() {
        Class<?>[] inside = HallOfClaims.class.getDeclaredClasses();
        Checks.holds("twelve classes at most", inside.length < 12);
        for (Class<?> one : inside) {
            Checks.holds("static: " + one, Modifier.isStatic(one.getModifiers()));
            int fields = 0;
            for (Field field : one.getDeclaredFields()) {
                boolean isStatic = Modifier.isStatic(field.getModifiers());
                Checks.holds("static, so final: " + field, !isStatic || Modifier.isFinal(field.getModifiers()));
                fields += isStatic ? 0 : 1;
            }
            Checks.holds("twenty fields at most: " + one, fields <= 20);
        }
    }

    private static void source(String source) {
        Checks.holds("signs 1 to 127 alone", source.chars().allMatch(c -> c > 0 && c < 128));
        String code = source.replaceAll("(?s)/\\*.*?\\*/", " ").replaceAll("//[^\n]*", " ");
        String[] words = {
            "throw", "throws", "try", "catch", "synchronized", "assert", "import", "package", "protected", "record",
            "Object", "equals", "hashCode", "toString", "System", "Exact", "while", "float", "double", "var", "yield",
        };
        for (String word : words) {
            Checks.holds("no " + word, !Pattern.compile("\\b" + word + "\\b").matcher(code).find());
        }
        String[] signs = {"->", "::", "\"", "@", "static {"};
        for (String sign : signs) {
            Checks.holds("no " + sign, !code.contains(sign));
        }
        Checks.holds("of the library only functions of numbers",
                !Pattern.compile("\\b(Integer|Long|Math)\\.\\w+\\b(?!\\()").matcher(code).find());
        Matcher made = Pattern.compile("\\bnew\\b").matcher(code);
        while (made.find()) {
            int begins = code.lastIndexOf('\n', made.start()) + 1;
            String line = code.substring(begins, code.indexOf('\n', begins));
            boolean isField = line.matches(" {4,8}(private )?final .*");
            boolean isRoom = line.trim().equals("numbers = new int[Math.max(0, room)];");
            Checks.holds("made with the object alone: " + line, isField || isRoom);
        }
        for (String method : code.split("(?m)^ {4,8}}$")) {
            Checks.holds("sixty lines at most: " + method, method.lines().count() <= 70);
        }
    }
}
