import java.io.IOException;
import java.lang.reflect.Constructor;
import java.lang.reflect.Field;
import java.lang.reflect.Method;
import java.lang.reflect.Modifier;
import java.nio.file.Files;
import java.nio.file.Path;
import java.util.ArrayList;
import java.util.Arrays;
import java.util.List;
import java.util.Set;
import java.util.TreeSet;
import java.util.regex.Matcher;
import java.util.regex.Pattern;

/** The public face, and those rules of LANGUAGE.md that can be seen from the class and its text. */
public final class FaceTest {
    private static final Path SOURCE = Path.of("src/main/java/PlaneColumn.java");
    private static final String[] FACE = {"int column()", "int planes()", "int adds(int)", "int puts(int,int)",
        "int cuts(int)", "int swaps(int,int)", "int reverses(int,int)", "int sign(int)", "boolean end(int)",
        "int level(int)", "int spot(int,int)", "int from(int,int)", "int runs()", "int thrift()", "int kth(int,int,int)",
        "int rank(int,int)", "int select(int,int)", "int band(int,int,int,int)", "int below(int,int,int)",
        "int above(int,int,int)", "int sums(int,int,int)", "int often(int,int,int)", "int mode(int,int)",
        "int across(int,int,int,int)", "int turned(int,int)", "int spread(int,int,int)", "int nearest(int,int)",
        "int dense(int,int,int)", "int farthest(int,int,int)", "int fit(int,int,int)", "int gap(int,int)",
        "int narrow(int,int)", "int lone(int,int)", "int rises(int,int)", "int marks(int,int,int)",
        "int common(int,int,int,int)", "int lacking(int,int,int,int)", "int both(int,int,int,int,int)",
        "int same(int,int,int,int)", "int count(int)", "long row(int)"};
    // A word, and the rule that rules it out.
    private static final String[][] RULED_OUT = {{"->", "2"}, {"::", "2"}, {"synchronized", "6"}, {"\\bassert\\b", "6"},
        {"\\bfinally\\b", "6"}, {"\\btry\\b", "6"}, {"\\bcatch\\b", "6"}, {"\\bpackage\\b", "0"}, {"Exact\\(", "4"},
        {"\\bdouble\\b|\\bfloat\\b", "3"}, {"getMessage", "6"}, {"\\bRandom\\b", "13"}, {"Thread", "13"},
        {"nanoTime|currentTimeMillis", "13"}, {"java\\.io|java\\.nio", "13"}, {"\\bstatic\\s*\\{", "5"},
        {"while \\(true\\)|for \\(;;\\)", "9"}, {"\\btoString\\b|\\bhashCode\\b", "6"}, {"\" \\+|\\+ \"", "10"}};
    private static int wrong = 0;

    public static void main(String[] args) throws IOException {
        members();
        nested(PlaneColumn.class);
        String code = withoutComments(Files.readString(SOURCE));
        library(code);
        for (String[] one : RULED_OUT) {
            due(!Pattern.compile(one[0]).matcher(code).find(), "rule " + one[1] + ": " + one[0] + " stands in the text");
        }
        methodLengths(code);
        System.out.println(wrong == 0 ? "FaceTest: the face is as due" : "FaceTest: " + wrong + " wrong");
        if (wrong != 0) {
            System.exit(1);
        }
    }

    private static void due(boolean so, String otherwise) {
        if (!so) {
            wrong++;
            System.out.println(otherwise);
        }
    }

    private static void members() {
        Class<?> c = PlaneColumn.class;
        due(Modifier.isPublic(c.getModifiers()) && Modifier.isFinal(c.getModifiers()), "the class is not public and final");
        due(c.getPackageName().isEmpty(), "the class lies in a package");
        Set<String> face = new TreeSet<>(Arrays.asList(FACE));
        Set<String> names = new TreeSet<>();
        Set<String> found = new TreeSet<>();
        for (Method m : c.getDeclaredMethods()) {
            if (!Modifier.isPrivate(m.getModifiers())) {
                found.add(told(m));
                names.add(m.getName());
                due(Modifier.isPublic(m.getModifiers()) && !Modifier.isStatic(m.getModifiers()), "not public: " + m);
            }
        }
        due(face.equals(found), "the face is " + found);
        for (Method m : c.getDeclaredMethods()) {
            due(!Modifier.isPrivate(m.getModifiers()) || !names.contains(m.getName()), "a private one has a public name: " + m);
        }
        for (Field f : c.getDeclaredFields()) {
            due(Modifier.isPrivate(f.getModifiers()) || f.getName().equals("NONE"), "a field is not private: " + f);
        }
        Constructor<?>[] all = c.getDeclaredConstructors();
        due(all.length == 1 && Modifier.isPublic(all[0].getModifiers()) && all[0].getParameterCount() == 0, "constructors");
        due(PlaneColumn.NONE == -1, "NONE");
    }

    private static String told(Method m) {
        List<String> types = new ArrayList<>();
        for (Class<?> type : m.getParameterTypes()) {
            types.add(type.getSimpleName());
        }
        return m.getReturnType().getSimpleName() + " " + m.getName() + "(" + String.join(",", types) + ")";
    }

    private static void nested(Class<?> outer) {
        Class<?>[] all = outer.getDeclaredClasses();
        due(all.length < 12, "rule 11: too many classes");
        for (Class<?> c : all) {
            due(Modifier.isStatic(c.getModifiers()) && !Modifier.isPublic(c.getModifiers()), "rule 1: " + c);
            limits(c);
        }
        limits(outer);
    }

    private static void limits(Class<?> c) {
        int fields = 0;
        for (Field f : c.getDeclaredFields()) {
            boolean fixed = Modifier.isStatic(f.getModifiers());
            fields += fixed ? 0 : 1;
            due(!fixed || Modifier.isFinal(f.getModifiers()), "rule 5: " + f);
        }
        due(fields <= 20, "rule 11: too many fields in " + c);
        for (Method m : c.getDeclaredMethods()) {
            due(m.getParameterCount() <= 7, "rule 11: too many parameters: " + m);
        }
    }

    private static String withoutComments(String text) {
        return text.replaceAll("(?s)/\\*.*?\\*/", "").replaceAll("//[^\n]*", "");
    }

    private static void library(String code) {
        Matcher imports = Pattern.compile("import ([\\w.]+);").matcher(code);
        while (imports.find()) {
            due(Set.of("java.util.Arrays", "java.util.NoSuchElementException").contains(imports.group(1)),
                "rule 4: " + imports.group());
        }
        Matcher calls = Pattern.compile("\\b(Arrays|System|Math|Integer|Long|String|Character)\\.(\\w+)").matcher(code);
        Set<String> listed = Set.of("Arrays.fill", "System.arraycopy", "Math.min", "Math.max", "Integer.bitCount", "Long.bitCount");
        while (calls.find()) {
            due(listed.contains(calls.group()), "rule 4: " + calls.group());
        }
        Matcher made = Pattern.compile("throw new (\\w+)").matcher(code);
        while (made.find()) {
            due(made.group(1).equals("NoSuchElementException"), "rule 6: " + made.group());
        }
    }

    private static void methodLengths(String code) {
        int begin = 0;
        String[] lines = code.split("\n", -1);
        for (int i = 0; i < lines.length; i++) {
            if (lines[i].matches(" {4,8}(public|private|static|\\w).*\\) ?(throws \\w+ )?\\{")) {
                begin = i;
            }
            due(!lines[i].matches(" {4,8}\\}") || i - begin <= 60, "rule 11: a method is long, line " + (begin + 1));
        }
    }
}
