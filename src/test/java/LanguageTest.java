import java.io.IOException;
import java.lang.reflect.Constructor;
import java.lang.reflect.Field;
import java.lang.reflect.Method;
import java.lang.reflect.Modifier;
import java.nio.file.Files;
import java.nio.file.Path;
import java.util.Set;
import java.util.TreeSet;
import java.util.regex.Matcher;
import java.util.regex.Pattern;

/** What can be looked at of ../shared/LANGUAGE.md and of the document's public face. */
public final class LanguageTest {
    private static final Due due = new Due();
    private static final String SOURCE = "src/main/java/StuntSet.java";
    private static final String DOCUMENT = "../shared/DOC.md";

    public static void main(String[] args) throws IOException {
        face();
        members(StuntSet.class);
        int classes = 1;
        for (Class<?> inside : StuntSet.class.getDeclaredClasses()) {
            classes++;
            due.is(inside.getName() + " is static", Modifier.isStatic(inside.getModifiers()) ? 1 : 0, 1);
            due.is(inside.getName() + " is public or protected",
                    inside.getModifiers() & (Modifier.PUBLIC | Modifier.PROTECTED), 0);
            members(inside);
        }
        due.is("at most twelve classes", Math.max(12, classes), 12);
        words();
        due.end("LanguageTest");
    }

    /** Every method of the document's face, just so, and no other. */
    private static void face() throws IOException {
        Set<String> wanted = new TreeSet<>();
        Matcher line = Pattern.compile("(?m)^    public int (\\w+)\\((.*)\\);$").matcher(Files.readString(Path.of(DOCUMENT)));
        while (line.find()) {
            wanted.add(line.group(1) + "(" + line.group(2).replaceAll("(\\w+) \\w+", "$1").replace(" ", "") + ")int");
        }
        due.is("methods in the document", wanted.size(), 41);
        Set<String> found = new TreeSet<>();
        Set<String> names = new TreeSet<>();
        for (Method m : StuntSet.class.getDeclaredMethods()) {
            if (!Modifier.isPrivate(m.getModifiers())) {
                StringBuilder types = new StringBuilder();
                for (Class<?> type : m.getParameterTypes()) {
                    types.append(types.length() > 0 ? "," : "").append(type.getName());
                }
                found.add(m.getName() + "(" + types + ")" + m.getReturnType().getName());
                names.add(m.getName());
            }
        }
        due.is("face " + found, found.equals(wanted) ? 1 : 0, 1);
        due.is("StuntSet's modifiers", StuntSet.class.getModifiers(), Modifier.PUBLIC | Modifier.FINAL);
        due.is("constructors", StuntSet.class.getConstructors().length, 1);
        for (Field f : StuntSet.class.getDeclaredFields()) {
            due.is(f.getName() + " is private", Modifier.isPrivate(f.getModifiers()) ? 1 : 0, 1);
        }
        for (Class<?> c : StuntSet.class.getDeclaredClasses()) {
            for (Method m : c.getDeclaredMethods()) {
                due.is(c.getName() + "." + m.getName() + " bears a public name", names.contains(m.getName()) ? 1 : 0, 0);
            }
        }
        for (Method m : StuntSet.class.getDeclaredMethods()) {
            if (Modifier.isPrivate(m.getModifiers())) {
                due.is(m.getName() + " bears a public name", names.contains(m.getName()) ? 1 : 0, 0);
            }
        }
    }

    private static void members(Class<?> c) {
        int fields = 0;
        for (Field f : c.getDeclaredFields()) {
            boolean constant = Modifier.isStatic(f.getModifiers());
            fields += constant ? 0 : 1;
            due.is(f + " is static and not final", constant && !Modifier.isFinal(f.getModifiers()) ? 1 : 0, 0);
        }
        due.is(c.getName() + " has at most twenty fields", Math.max(20, fields), 20);
        for (Method m : c.getDeclaredMethods()) {
            due.is(m + " takes at most seven", Math.max(7, m.getParameterCount()), 7);
        }
        for (Constructor<?> made : c.getDeclaredConstructors()) {
            due.is(made + " takes at most seven", Math.max(7, made.getParameterCount()), 7);
        }
    }

    private static void words() throws IOException {
        String source = Files.readString(Path.of(SOURCE));
        String code = source.replaceAll("(?s)/\\*.*?\\*/", " ").replaceAll("//[^\n]*", " ").replaceAll("\"[^\"\n]*\"", "\"\"");
        String[] banned = {"\\bthrow\\b", "\\bthrows\\b", "\\btry\\b", "\\bcatch\\b", "\\bfinally\\b", "\\bsynchronized\\b",
            "\\bassert\\b", "->", "::", "\\bimport\\b", "\\bpackage\\b", "Exact\\b", "\\bSystem\\b", "\\bRandom\\b",
            "\\bThread\\b", "\\bnative\\b", "\\bvolatile\\b", "\\btransient\\b", "\\bvar\\b", "@", "\\bdouble\\b", "\\bfloat\\b",
            "static \\{"};
        for (String word : banned) {
            due.is("in the source: " + word, Pattern.compile(word).matcher(code).find() ? 1 : 0, 0);
        }
        for (int i = 0; i < source.length(); i++) {
            if (source.charAt(i) > 127) {
                due.is("a sign above 127 at " + i, source.charAt(i), 0);
            }
        }
        longestMethod(code);
    }

    /** Methods of at most sixty lines: from one line that opens a member to the brace of the same depth. */
    private static void longestMethod(String code) {
        String[] lines = code.split("\n", -1);
        for (int i = 0; i < lines.length; i++) {
            Matcher open = Pattern.compile("^( {4}| {8})\\w[\\w\\[\\] ]* \\w+\\(.*\\{$").matcher(lines[i]);
            if (open.find()) {
                int end = i;
                while (end < lines.length && !lines[end].equals(open.group(1) + "}")) {
                    end++;
                }
                due.is("lines from " + lines[i].trim(), Math.max(60, end - i + 1), 60);
            }
        }
    }
}
