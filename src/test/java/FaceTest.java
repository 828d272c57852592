import java.lang.reflect.Constructor;
import java.lang.reflect.Field;
import java.lang.reflect.Method;
import java.lang.reflect.Modifier;
import java.nio.file.Files;
import java.nio.file.Path;
import java.util.ArrayList;
import java.util.Arrays;
import java.util.List;
import java.util.Set;
import java.util.TreeSet;
import java.util.regex.Matcher;
import java.util.regex.Pattern;

/** The public face is the document's and no more, and the file keeps to what can be seen of LANGUAGE.md. */
public final class FaceTest {
    private static final String FACE = """
        int feed(int,int,int,int,int)
        int text(int,int,int)
        int fault(int)
        int rod(int,int)
        int cell(int,int,int)
        int strength(int,int,int)
        int bent(int,int,boolean)
        int go(int,int,int)
        int broke(int,int)
        int piece(int)
        int wave(int,int)
        int run(int)
        int why()
        int film(int)
        int beyond(int,int,int,int)
        int odds(int,int,int,int)
        int ends(int,int,int,int)
        int paced(int,int,int,int)
        int turned(int,int,int,int)
        int least(int,int,int)
        int line(int,int,int,int)
        int notched(int,int,int,int,int)
        int notch(int,int,int,int)
        int longer(int,int,int,int)
        int thinner(int,int,int,int)
        int beside(int,int,int,int)
        int never(int,int)
        int read(int,int,int,int)
        int was(int,int,int,int)
        int found(int,int,int,int,int)
        int middle(int,int,int,int)
        int filmed(int,int,int,int,int)
        int swapped(int,int,int)
        int grid(int,int,int)
        int flies(int)
        int row(int,int,int)
        long write(int,int,long)
        int keep(int,int)
        int image(int)
        int restore(int)
        int status(int)
        int count(int)
        """;

    /** What the class takes of rule 4's static functions. */
    private static final Set<String> LIBRARY = Set.of("Math.abs", "Math.max", "Math.min", "Arrays.fill",
        "System.arraycopy");

    private static int wrong = 0;

    private static void hold(boolean so, String what) {
        if (!so) {
            wrong++;
            System.out.println(what);
        }
    }

    public static void main(String[] args) throws Exception {
        face();
        members();
        source(Files.readString(Path.of("src/main/java/RodInThree.java")));
        System.out.println(wrong == 0 ? "the face is as it is due" : wrong + " things of the face are not as due");
        if (wrong != 0) System.exit(1);
    }

    private static void face() throws Exception {
        Class<?> c = RodInThree.class;
        hold(c.getModifiers() == (Modifier.PUBLIC | Modifier.FINAL), "the class is not public and final alone");
        Set<String> due = new TreeSet<>(Arrays.asList(FACE.strip().split("\n")));
        Set<String> there = new TreeSet<>();
        for (Method m : c.getDeclaredMethods()) {
            if (!Modifier.isPrivate(m.getModifiers())) {
                List<String> p = new ArrayList<>();
                for (Class<?> t : m.getParameterTypes()) p.add(t.getName());
                there.add(m.getReturnType().getName() + " " + m.getName() + "(" + String.join(",", p) + ")");
                hold(m.getModifiers() == Modifier.PUBLIC, m + " is not public alone");
            }
        }
        hold(due.equals(there), "methods are not those of the document: " + there);
        hold(c.getDeclaredConstructors().length == 1, "there is not one constructor");
        for (Constructor<?> k : c.getDeclaredConstructors()) {
            hold(k.getParameterCount() == 0 && Modifier.isPublic(k.getModifiers()), k + " is not the document's");
        }
        for (Field f : c.getDeclaredFields()) {
            boolean isNone = f.getName().equals("NONE");
            hold(isNone || Modifier.isPrivate(f.getModifiers()), f + " is not private");
        }
        hold(RodInThree.NONE == -1, "NONE is not -1");
    }

    private static void members() {
        Set<String> open = new TreeSet<>();
        for (String f : FACE.strip().split("\n")) open.add(f.replaceAll(".* |\\(.*", ""));
        List<Class<?>> all = new ArrayList<>(List.of(RodInThree.class));
        all.addAll(Arrays.asList(RodInThree.class.getDeclaredClasses()));
        hold(all.size() <= 12, "more than twelve classes");
        for (Class<?> c : all) {
            int fields = 0;
            for (Field f : c.getDeclaredFields()) {
                boolean isStatic = Modifier.isStatic(f.getModifiers());
                if (!isStatic) fields++;
                hold(!isStatic || Modifier.isFinal(f.getModifiers()), f + " is static and not final");
            }
            hold(fields <= 20, c + " has " + fields + " fields");
            hold(c == RodInThree.class || Modifier.isStatic(c.getModifiers()), c + " is not static");
            for (Method m : c.getDeclaredMethods()) {
                boolean isFace = c == RodInThree.class && Modifier.isPublic(m.getModifiers());
                hold(isFace || !open.contains(m.getName()), m + " bears the name of a public one");
                hold(m.getParameterCount() <= 7, m + " has more than seven parameters");
            }
        }
    }

    private static void source(String text) {
        String bare = text.replaceAll("(?s)/\\*.*?\\*/", "").replaceAll("//[^\n]*", "");
        String code = bare.replaceAll("\"[^\"\n]*\"", "\"\"");
        for (String word : List.of("throw", "throws", "try", "catch", "synchronized", "assert", "package",
                "lambda", "Exact", "System\\.(?!arraycopy)", "->", "::", "native", "volatile", "enum", "Object")) {
            Matcher m = Pattern.compile(word.matches("[a-zA-Z]+") ? "\\b" + word + "\\b" : word).matcher(code);
            hold(!m.find(), "the file has '" + word + "'");
        }
        hold(!Pattern.compile("\"\"\\s*\\+|\\+\\s*\"\"").matcher(code).find(), "texts are joined by +");
        hold(text.chars().allMatch(c -> c == 10 || c >= 32 && c < 127), "the file has other signs than 32 to 126");
        Matcher imports = Pattern.compile("(?m)^import (.*);").matcher(code);
        while (imports.find()) {
            hold(List.of("java.util.Arrays", "java.util.ArrayList", "java.util.List").contains(imports.group(1)),
                "import " + imports.group(1));
        }
        Matcher library = Pattern.compile("\\b(Integer|Long|Math|Arrays|System|List|String)\\.(\\w+)").matcher(
            code.replaceAll("(?m)^import .*;", ""));
        while (library.find()) {
            hold(LIBRARY.contains(library.group()), library.group() + " is not in the library that stands in rule 4");
        }
        int length = 0;
        for (String line : text.split("\n")) {
            length = line.matches(" {4}(?: {4})?\\S.*\\) \\{") ? 0 : length + 1;
            hold(!line.matches(" {4}(?: {4})?\\}") || length <= 60, "a method is longer than sixty lines, up to: " + line);
            if (line.matches(" {4}(?: {4})?\\}")) length = 0;
        }
        // No call may make an object: all calls of a run live in one room.
        for (String line : code.split("\n")) {
            boolean isMade = line.contains("new ") && !line.contains("final") && !line.matches(" +private (Rod|Law) .*")
                && !line.matches(" +(images|rows|rods|doings)\\[[ik]\\] = new \\w+\\(\\);");
            hold(!isMade, "an object is made outside of a constructor: " + line.strip());
        }
    }
}
