import java.lang.reflect.Constructor;
import java.lang.reflect.Field;
import java.lang.reflect.Member;
import java.lang.reflect.Method;
import java.lang.reflect.Modifier;
import java.nio.file.Files;
import java.nio.file.Path;
import java.util.Set;
import java.util.TreeSet;
import java.util.regex.Matcher;
import java.util.regex.Pattern;

/** The public face, and those rules of LANGUAGE.md that can be looked up in the class and its text. */
public final class FaceTest {
    private static final Check CHECK = new Check();
    private static final String[] FACE = {
        "int write(int)", "int wipe()", "int fault()", "int sale()", "int about(int)", "int jar(int,int)", "int at(int)",
        "int week()", "int shake()", "int set(int,int)", "int pour(int,int)", "int open(int)", "int undo()",
        "int later(int,int,int)", "int becomes(int,int)", "int fails(int)", "int stuff(int,int,int,int)",
        "int row(boolean)", "int judge(int,long)", "int share(int,boolean)", "int taste(int,int)", "int untaste()",
        "int kept(int)", "int rests(int,int,int)", "int papers(int,int,boolean)", "long seed(long)", "int years(int)",
        "int keep(int)", "int again(int)"
    };
    private static final String[] CONSTANTS = {"UNKNOWN", "BAD", "LATE", "FULL", "NONE"};

    public static void main(String[] args) throws Exception {
        due("final", Modifier.isFinal(GreenJars.class.getModifiers()));
        methods();
        fields();
        constructors();
        nested();
        String source = Files.readString(Path.of("src/main/java/GreenJars.java"));
        words(source);
        lengths(source);
        CHECK.end("FaceTest");
    }

    private static void due(String what, boolean so) {
        CHECK.due(what, 1, so ? 1 : 0);
    }

    private static boolean isPrivate(Member member) {
        return Modifier.isPrivate(member.getModifiers());
    }

    private static void methods() {
        Set<String> face = new TreeSet<>(Set.of(FACE));
        Set<String> open = new TreeSet<>();
        Set<String> names = new TreeSet<>();
        for (Method method : GreenJars.class.getDeclaredMethods()) {
            if (!isPrivate(method)) {
                due(method + " is public", Modifier.isPublic(method.getModifiers()) && !Modifier.isStatic(method.getModifiers()));
                open.add(told(method));
                names.add(method.getName());
            }
        }
        due("the face is " + face + ", not " + open, face.equals(open));
        for (Method method : GreenJars.class.getDeclaredMethods()) {
            due(method + " bears a public name", !isPrivate(method) || !names.contains(method.getName()));
            due(method + " has seven parameters at most", method.getParameterCount() <= 7);
        }
    }

    private static String told(Method method) {
        StringBuilder told = new StringBuilder(method.getReturnType().getName());
        told.append(' ').append(method.getName()).append('(');
        for (Class<?> type : method.getParameterTypes()) {
            told.append(told.charAt(told.length() - 1) == '(' ? "" : ",").append(type.getName());
        }
        return told.append(')').toString();
    }

    private static void fields() {
        Set<String> open = new TreeSet<>();
        for (Field field : GreenJars.class.getDeclaredFields()) {
            int modifiers = field.getModifiers();
            due(field + " is final, if it is static", !Modifier.isStatic(modifiers) || Modifier.isFinal(modifiers));
            if (!isPrivate(field)) {
                due(field + " is a constant", Modifier.isPublic(modifiers) && Modifier.isStatic(modifiers) && field.getType() == int.class);
                open.add(field.getName());
            }
        }
        due("constants are " + open, open.equals(new TreeSet<>(Set.of(CONSTANTS))));
        CHECK.due("UNKNOWN", -1, GreenJars.UNKNOWN);
        CHECK.due("BAD", -2, GreenJars.BAD);
        CHECK.due("LATE", -3, GreenJars.LATE);
        CHECK.due("FULL", -4, GreenJars.FULL);
        CHECK.due("NONE", -9, GreenJars.NONE);
    }

    private static void constructors() {
        Constructor<?>[] all = GreenJars.class.getDeclaredConstructors();
        CHECK.due("constructors", 1, all.length);
        due("a public one without parameters", Modifier.isPublic(all[0].getModifiers()) && all[0].getParameterCount() == 0);
    }

    private static void nested() {
        Class<?>[] all = GreenJars.class.getDeclaredClasses();
        due("twelve classes at most", all.length + 1 <= 12);
        for (Class<?> one : all) {
            int modifiers = one.getModifiers();
            due(one + " is static", Modifier.isStatic(modifiers));
            due(one + " is not open to all", !Modifier.isPublic(modifiers) && !Modifier.isProtected(modifiers));
            int fields = 0;
            for (Field field : one.getDeclaredFields()) {
                boolean fixed = Modifier.isStatic(field.getModifiers());
                due(field + " is final, if it is static", !fixed || Modifier.isFinal(field.getModifiers()));
                fields += fixed ? 0 : 1;
            }
            for (Method method : one.getDeclaredMethods()) {
                due(method + " bears a name of the face", !isOfFace(method.getName()));
                due(method + " has seven parameters at most", method.getParameterCount() <= 7);
            }
            due(one + " has twenty fields at most", fields <= 20);
        }
    }

    private static boolean isOfFace(String name) {
        for (String call : FACE) {
            if (call.contains(" " + name + "(")) {
                return true;
            }
        }
        return false;
    }

    // Methods begin and end at the depth of four or eight blanks, and only theirs have a bracket there.
    private static void lengths(String source) {
        Pattern begin = Pattern.compile("^( {4}| {8})[a-zA-Z].*\\) \\{$");
        Pattern end = Pattern.compile("^( {4}| {8})\\}$");
        String[] lines = source.split("\n");
        int methods = 0;
        int from = 0;
        boolean inside = false;
        for (int k = 0; k < lines.length; k++) {
            boolean isWord = lines[k].trim().matches("(if|for|while|switch) .*");
            if (!inside && !isWord && begin.matcher(lines[k]).find()) {
                from = k;
                inside = true;
                methods++;
            } else if (inside && end.matcher(lines[k]).find() && blanks(lines[k]) == blanks(lines[from])) {
                due(lines[from].trim() + " has sixty lines at most", k - from + 1 <= 60);
                inside = false;
            }
        }
        due("methods were found: " + methods, methods > FACE.length && !inside);
    }

    private static int blanks(String line) {
        return line.length() - line.stripLeading().length();
    }

    private static void words(String source) {
        String code = source.replaceAll("(?s)/\\*.*?\\*/", " ").replaceAll("//[^\n]*", " ");
        String[] banned = {"throw", "throws", "try", "catch", "finally", "synchronized", "assert", "import", "package",
            "volatile", "transient", "native", "double", "float", "goto", "Exact", "Random", "System.out", "nanoTime",
            "currentTimeMillis", "Object", "hashCode", "Thread", "File"};
        for (String word : banned) {
            due("the word " + word, !Pattern.compile("\\b" + Pattern.quote(word) + "\\b").matcher(code).find());
        }
        due("no lambda", !code.contains("->"));
        due("no method reference", !code.contains("::"));
        Matcher calls = Pattern.compile("\\b(System|Math|Integer|Long|Arrays)\\.(\\w+)").matcher(code);
        Set<String> allowed = Set.of("System.arraycopy", "Math.min", "Math.max", "Math.abs", "Integer.compare", "Integer.bitCount");
        while (calls.find()) {
            due("the library's " + calls.group(), allowed.contains(calls.group()));
        }
        for (int k = 0; k < source.length(); k++) {
            due("a sign of 1 to 127", source.charAt(k) >= 1 && source.charAt(k) <= 127);
        }
    }
}
