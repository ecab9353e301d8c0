import java.io.IOException;
import java.lang.reflect.Constructor;
import java.lang.reflect.Field;
import java.lang.reflect.Method;
import java.lang.reflect.Modifier;
import java.nio.file.Files;
import java.nio.file.Path;
import java.util.ArrayList;
import java.util.Arrays;
import java.util.HashSet;
import java.util.List;
import java.util.Set;
import java.util.TreeSet;
import java.util.regex.Matcher;
import java.util.regex.Pattern;

/** The public face as the document has it, and the rules of LANGUAGE.md that can be seen by a machine. */
public final class FaceTest {
    private static final Path SOURCE = Path.of("src/main/java/PlateVote.java");
    private static final String[] FACE = {"int feed(int,int,int,int,int)", "int text(int)", "int fault(int)",
        "int named(int,int)", "int look(int,int)", "int ship(int)", "int far(int,int)", "int land(int)", "int wish(int)",
        "long law(int,int,int)", "int votes(int)", "boolean fed(int)", "boolean truth(int)", "int meals(int)",
        "int log(int,int)", "int plan(int,int)", "int power(int,int)", "int taken(int,int)", "int washed(int,int)",
        "int strike(int)", "boolean known(int)", "int fits()", "int sure(int)", "int odds(int,int)", "int fraud()",
        "int tried(int,int,int)", "int undo()", "int keep()", "int back()", "int count(int)"};

    public static void main(String[] args) throws IOException {
        face();
        members();
        source(Files.readString(SOURCE));
        CheckKit.end();
    }

    private static void face() {
        CheckKit.due("final", Modifier.isFinal(PlateVote.class.getModifiers()), true);
        CheckKit.due("NONE", PlateVote.NONE, -1);
        CheckKit.due("constructors", PlateVote.class.getDeclaredConstructors().length, 1);
        for (Constructor<?> c : PlateVote.class.getDeclaredConstructors()) {
            CheckKit.due("constructor is public", Modifier.isPublic(c.getModifiers()), true);
            CheckKit.due("constructor takes nothing", c.getParameterCount(), 0);
        }
        Set<String> there = new TreeSet<>();
        for (Method m : PlateVote.class.getDeclaredMethods()) {
            if (Modifier.isPublic(m.getModifiers())) {
                String parameters = Arrays.toString(m.getParameterTypes()).replaceAll("[\\[\\] ]", "");
                there.add(m.getReturnType() + " " + m.getName() + "(" + parameters + ")");
            }
        }
        for (String method : FACE) {
            CheckKit.due(method, there.remove(method), true);
        }
        CheckKit.due("no more than the face: " + there, there.size(), 0);
    }

    private static void members() {
        Set<String> face = new HashSet<>();
        for (String method : FACE) {
            face.add(method.replaceAll("^\\w+ (\\w+)\\(.*", "$1"));
        }
        for (Field f : PlateVote.class.getDeclaredFields()) {
            boolean fits = f.getName().equals("NONE") || Modifier.isPrivate(f.getModifiers());
            CheckKit.due("private " + f.getName(), fits, true);
        }
        List<Class<?>> all = new ArrayList<>(Arrays.asList(PlateVote.class.getDeclaredClasses()));
        CheckKit.due("some twelve classes", all.size() <= 12, true);
        for (Class<?> inside : all) {
            CheckKit.due("static " + inside, Modifier.isStatic(inside.getModifiers()), true);
            CheckKit.due("not public " + inside, Modifier.isPublic(inside.getModifiers()), false);
        }
        all.add(PlateVote.class);
        for (Class<?> c : all) {
            int fields = 0;
            for (Field f : c.getDeclaredFields()) {
                boolean isStatic = Modifier.isStatic(f.getModifiers());
                fields += isStatic ? 0 : 1;
                CheckKit.due("static is final: " + f, !isStatic || Modifier.isFinal(f.getModifiers()), true);
            }
            CheckKit.due("some twenty fields: " + c + " has " + fields, fields <= 22, true);
            for (Method m : c.getDeclaredMethods()) {
                CheckKit.due("at most seven parameters: " + m, m.getParameterCount() <= 7, true);
                boolean isPublic = Modifier.isPublic(m.getModifiers());
                CheckKit.due("a name of the face: " + m, !isPublic && face.contains(m.getName()), false);
            }
        }
    }

    private static void source(String text) {
        String code = text.replaceAll("(?s)/\\*.*?\\*/", "").replaceAll("//[^\n]*", "").replaceAll("\"[^\"\n]*\"", "\"\"");
        String[] forbidden = {"->", "::", "\\btry\\b", "\\bcatch\\b", "\\bfinally\\b", "\\bsynchronized\\b", "\\bassert\\b",
            "\\bstatic \\{", "Exact\\(", "\\bSystem\\.(?!arraycopy)", "\\bpackage\\b", "\\bvar\\b", "\\bObject\\b",
            "\\bdouble\\b", "\\bfloat\\b", "\\bthrow new (?!IndexOutOfBounds|NoSuchElement)"};
        for (String word : forbidden) {
            Matcher m = Pattern.compile(word).matcher(code);
            CheckKit.due("not in the source: " + word, m.find(), false);
        }
        Matcher imports = Pattern.compile("(?m)^import .*$").matcher(code);
        while (imports.find()) {
            CheckKit.due("import", imports.group().equals("import java.util.NoSuchElementException;"), true);
        }
        // Rule 4: of the library only what stands there; its constants do not.
        Matcher library = Pattern.compile("\\b(Math|Integer|Long|Arrays|String|System|List)\\.\\w+").matcher(code);
        Set<String> allowed = Set.of("Math.min", "Math.max", "Math.abs", "Integer.bitCount", "System.arraycopy");
        while (library.find()) {
            CheckKit.due("of the library: " + library.group(), allowed.contains(library.group()), true);
        }
        for (int i = 0; i < text.length(); i++) {
            char c = text.charAt(i);
            if (c > 126 || c < 32 && c != '\n') {
                CheckKit.due("sign at " + i, c, ' ');
            }
        }
        Matcher loops = Pattern.compile("\\b(while|for) \\([^;)]*true|for \\(;;").matcher(code);
        CheckKit.due("a loop without an end", loops.find(), false);
        methodLengths(code);
    }

    private static void methodLengths(String code) {
        String[] lines = code.split("\n");
        for (int i = 0; i < lines.length; i++) {
            Matcher start = Pattern.compile("^( {4}| {8})(?! )[^=;]*\\) (throws [\\w, ]+ )?\\{$").matcher(lines[i]);
            if (start.find()) {
                int end = i;
                while (end < lines.length && !lines[end].equals(start.group(1) + "}")) {
                    end++;
                }
                CheckKit.due("some sixty lines: " + lines[i].trim(), end - i <= 60, true);
            }
        }
    }
}
