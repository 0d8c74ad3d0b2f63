import java.io.IOException;
import java.lang.reflect.Field;
import java.lang.reflect.Method;
import java.lang.reflect.Modifier;
import java.nio.file.Files;
import java.nio.file.Path;
import java.util.HashSet;
import java.util.Set;
import java.util.TreeSet;
import java.util.regex.Matcher;
import java.util.regex.Pattern;

/** The public face of the document, and those rules of LANGUAGE.md that a program can see. */
public final class FaceTest {
    private static final String[] FACE = {"int type(int,int)", "int wipe(int)", "int undo(int)", "int fault(int)",
        "int singer(int,int)", "int bar(int)", "int set(int,int)", "int whistle(int)", "int ear(int,int)",
        "int note(int,int)", "int away(int,int)", "int chord(int,int)", "int open(int)", "int stand(int,int)",
        "int hush(int,int)", "int drive(int,int)", "int heard(int,int,int)", "int forget()", "int read(int)",
        "int speeds(int)", "int cows()", "int ask()", "long herd(int,int,int,int)", "int times(int,int,int)",
        "int sheet(int,int,int)", "int lose(int)", "int lay(int,int,int,int)", "int get(int,int,int)",
        "int copy(int,int,int,int,int)", "int write(int,int)", "int count(int)", "long digest()"};
    private static final Due DUE = new Due("FaceTest");

    public static void main(String[] args) throws IOException {
        face();
        classesInside();
        source(bare(Files.readString(Path.of(args.length > 0 ? args[0] : "src/main/java/TrainNote.java"))));
        DUE.end();
    }

    private static void face() {
        Class<?> c = TrainNote.class;
        DUE.that("the class is public and final", Modifier.isPublic(c.getModifiers())
            && Modifier.isFinal(c.getModifiers()));
        DUE.is("constructors", c.getDeclaredConstructors().length, 1);
        DUE.is("public constructors without parameters", c.getConstructors().length, 1);
        Set<String> told = new TreeSet<>();
        Set<String> names = new HashSet<>();
        for (String s : FACE) {
            told.add(s);
            names.add(s.substring(s.indexOf(' ') + 1, s.indexOf('(')));
        }
        Set<String> found = new TreeSet<>();
        for (Method m : c.getDeclaredMethods()) {
            if (Modifier.isPublic(m.getModifiers())) {
                found.add(shape(m));
            } else {
                DUE.that(m.getName() + " is private", Modifier.isPrivate(m.getModifiers()));
                DUE.that(m.getName() + " has a name of its own", !names.contains(m.getName()));
            }
            DUE.that(m.getName() + " has at most seven parameters", m.getParameterCount() <= 7);
        }
        DUE.that("the public methods are those told: " + found, found.equals(told));
        Set<String> constants = new TreeSet<>();
        for (Field f : c.getDeclaredFields()) {
            if (!Modifier.isPrivate(f.getModifiers())) {
                constants.add(f.toString());
            }
            DUE.that(f.getName() + " is no static that changes", !Modifier.isStatic(f.getModifiers())
                || Modifier.isFinal(f.getModifiers()));
        }
        String start = "public static final int TrainNote.";
        DUE.that("the constants are those told", constants.equals(new TreeSet<>(Set.of(start + "NONE", start + "BAD",
            start + "NOT", start + "FULL"))));
    }

    private static String shape(Method m) {
        StringBuilder b = new StringBuilder();
        b.append(m.getReturnType().getName()).append(' ').append(m.getName()).append('(');
        String between = "";
        for (Class<?> p : m.getParameterTypes()) {
            b.append(between).append(p.getName());
            between = ",";
        }
        return b.append(')').toString();
    }

    private static void classesInside() {
        Class<?>[] inside = TrainNote.class.getDeclaredClasses();
        DUE.that("at most twelve classes", inside.length < 12);
        for (Class<?> c : inside) {
            DUE.that(c.getName() + " is static", Modifier.isStatic(c.getModifiers()));
            DUE.that(c.getName() + " is not public", !Modifier.isPublic(c.getModifiers())
                && !Modifier.isProtected(c.getModifiers()));
            DUE.that(c.getName() + " has at most twenty fields", c.getDeclaredFields().length <= 20);
            for (Method m : c.getDeclaredMethods()) {
                DUE.that(c.getName() + "." + m.getName() + " has a name of its own", !isOfFace(m.getName()));
            }
        }
    }

    private static boolean isOfFace(String name) {
        for (String told : FACE) {
            if (told.contains(" " + name + "(")) {
                return true;
            }
        }
        return false;
    }

    /** The source without comments, texts and signs. */
    private static String bare(String source) {
        return source.replaceAll("(?s)/\\*.*?\\*/", " ").replaceAll("//[^\n]*", " ").replaceAll("\"[^\"\n]*\"", "\"\"")
            .replaceAll("'[^'\n]+'", "' '");
    }

    private static void source(String bare) {
        for (String word : new String[] {"throw", "throws", "try", "catch", "finally", "synchronized", "assert",
            "package", "protected", "native", "volatile", "double", "float", "Exact", "Random", "Thread", "File"}) {
            DUE.that("the word " + word + " does not stand there",
                !Pattern.compile("\\b" + word + "\\b").matcher(bare).find());
        }
        DUE.that("no lambda, no method reference", !bare.contains("->") && !bare.contains("::"));
        Matcher imports = Pattern.compile("import ([^;]+);").matcher(bare);
        while (imports.find()) {
            DUE.that("import " + imports.group(1), imports.group(1).equals("java.util.Arrays"));
        }
        Set<String> library = Set.of("System.arraycopy", "Arrays.fill", "Math.min", "Math.max", "Math.abs",
            "Integer.bitCount");
        Matcher used = Pattern.compile("\\b(System|Arrays|Math|Integer|Long|String|Objects)\\.\\w+").matcher(bare);
        while (used.find()) {
            DUE.that(used.group() + " stands in the list", library.contains(used.group()));
        }
    }
}
