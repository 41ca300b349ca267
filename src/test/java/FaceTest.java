import java.lang.reflect.Constructor;
import java.lang.reflect.Field;
import java.lang.reflect.Method;
import java.lang.reflect.Modifier;
import java.nio.file.Files;
import java.nio.file.Path;
import java.util.ArrayList;
import java.util.Arrays;
import java.util.List;
import java.util.Set;
import java.util.TreeSet;
import java.util.regex.Matcher;
import java.util.regex.Pattern;

/** The public face, and those rules of LANGUAGE.md that can be looked at from outside. */
public final class FaceTest {
    private static final String[] FACE = {"int feed(int,int,int,int,int)", "boolean end(int)", "int fair()", "int fault(int)", "int has(int)",
        "int letter(int,int,int)", "int trier(int,int)", "int mark(int)", "int past(int)", "int high(int,int,int,boolean)",
        "int hard(int,boolean)", "int wide(int,boolean)", "int leans(int,int,int,int,int)", "int tree(int,int)", "int best(int)",
        "int honest(int)", "int bet(int,int,int)", "int night()", "boolean rule(int,boolean)", "int set(int,int)", "boolean undo()",
        "boolean seed(int)", "int kept(int,int)", "boolean see(int)", "int was(int)", "int strong(int)", "int next(boolean)",
        "int clear(int)", "int reach(int,int)", "int image()", "int octet(int)", "boolean on()", "int status(int)"};

    public static void main(String[] args) throws Exception {
        face();
        classesInside();
        source(Files.readString(Path.of(args.length > 0 ? args[0] : "src/main/java/BellHammer.java")));
        Check.close();
    }

    private static void face() {
        int of = BellHammer.class.getModifiers();
        Check.due("public final", Modifier.isPublic(of) && Modifier.isFinal(of), true);
        Check.due("NONE", BellHammer.NONE, -1);
        Set<String> want = new TreeSet<>(Arrays.asList(FACE));
        Set<String> got = new TreeSet<>();
        for (Method m : BellHammer.class.getDeclaredMethods()) {
            if (Modifier.isPublic(m.getModifiers())) {
                Check.due("static " + m, Modifier.isStatic(m.getModifiers()), false);
                StringBuilder s = new StringBuilder(m.getReturnType() + " " + m.getName() + "(");
                for (Class<?> p : m.getParameterTypes()) {
                    s.append(s.charAt(s.length() - 1) == '(' ? "" : ",").append(p);
                }
                got.add(s + ")");
            } else if (!m.isSynthetic()) {
                Check.due("private " + m, Modifier.isPrivate(m.getModifiers()), true);
            }
        }
        Check.due("the public methods " + got, got.equals(want), true);
        Constructor<?>[] all = BellHammer.class.getDeclaredConstructors();
        Check.due("one constructor", all.length, 1);
        Check.due("public, without arguments", Modifier.isPublic(all[0].getModifiers()) && all[0].getParameterCount() == 0, true);
        for (Field f : BellHammer.class.getDeclaredFields()) {
            boolean isNone = f.getName().equals("NONE");
            Check.due("field " + f, isNone ? Modifier.isPublic(f.getModifiers()) : Modifier.isPrivate(f.getModifiers()), true);
        }
    }

    private static void classesInside() {
        List<Class<?>> all = new ArrayList<>(Arrays.asList(BellHammer.class.getDeclaredClasses()));
        all.add(BellHammer.class);
        Set<String> publicNames = new TreeSet<>();
        for (String line : FACE) {
            publicNames.add(line.substring(line.indexOf(' ') + 1, line.indexOf('(')));
        }
        Check.due("twelve classes at most", all.size() <= 12, true);
        for (Class<?> c : all) {
            if (c != BellHammer.class) {
                Check.due("static " + c, Modifier.isStatic(c.getModifiers()), true);
                Check.due("hidden " + c, Modifier.isPublic(c.getModifiers()) || Modifier.isProtected(c.getModifiers()), false);
            }
            int fields = 0;
            for (Field f : c.getDeclaredFields()) {
                boolean isStatic = Modifier.isStatic(f.getModifiers());
                Check.due("final if static " + f, !isStatic || Modifier.isFinal(f.getModifiers()), true);
                fields += isStatic || f.isSynthetic() ? 0 : 1;
            }
            Check.due("twenty fields at most in " + c, fields <= 20, true);
            for (Method m : c.getDeclaredMethods()) {
                Check.due("seven parameters at most " + m, m.getParameterCount() <= 7, true);
                boolean isFace = c == BellHammer.class && Modifier.isPublic(m.getModifiers());
                Check.due("a name of its own " + m, !isFace && publicNames.contains(m.getName()), false);
            }
        }
    }

    private static void source(String whole) {
        Check.due("no sign above 127", whole.chars().allMatch(c -> c < 128), true);
        String code = whole.replaceAll("(?s)/\\*.*?\\*/", " ").replaceAll("//[^\n]*", " ");
        Check.due("no package", Pattern.compile("\\bpackage\\b").matcher(code).find(), false);
        for (String line : code.split("\n")) {
            if (line.startsWith("import")) {
                Check.due(line, line.equals("import java.util.Arrays;"), true);
            }
        }
        code = code.replaceAll("'.'", "'s'").replaceAll("\"[^\"]*\"", "\"\"");
        Check.due("no texts joined by +", Pattern.compile("\"\\s*\\+|\\+\\s*\"").matcher(code).find(), false);
        Check.due("no lambda", code.contains("->"), false);
        Check.due("no method reference", code.contains("::"), false);
        Check.due("no static block", Pattern.compile("static\\s*\\{").matcher(code).find(), false);
        Check.due("no class without a name", Pattern.compile("new\\s+\\w+\\s*\\([^)]*\\)\\s*\\{").matcher(code).find(), false);
        for (String word : new String[] {"throw", "throws", "try", "catch", "finally", "synchronized", "assert", "protected", "volatile",
            "native", "Thread", "Random", "Object", "equals", "hashCode", "toString", "extends", "var", "System.out", "System.exit"}) {
            Check.due("no " + word, Pattern.compile("\\b" + word.replace(".", "\\.") + "\\b").matcher(code).find(), false);
        }
        Matcher library = Pattern.compile("\\b(Math|System|Arrays|Integer|Long)\\.(\\w+)").matcher(code);
        List<String> listed = Arrays.asList("max", "min", "floorDiv", "arraycopy", "fill");
        while (library.find()) {
            Check.due("library " + library.group(), listed.contains(library.group(2)), true);
        }
        lengths(code);
    }

    /** Methods stand in four or eight blanks: from a line that opens one to the brace that closes it. */
    private static void lengths(String code) {
        String[] lines = code.split("\n");
        for (int i = 0; i < lines.length; i++) {
            Matcher m = Pattern.compile("^( {4}| {8})\\S.*\\).*\\{$").matcher(lines[i]);
            if (m.find() && !lines[i].contains(" class ")) {
                int to = i;
                while (to < lines.length && !lines[to].equals(m.group(1) + "}")) {
                    to++;
                }
                Check.due("sixty lines at most: " + lines[i].trim(), to - i < 60, true);
            }
        }
    }
}
