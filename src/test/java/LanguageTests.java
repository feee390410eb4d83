import java.io.IOException;
import java.lang.reflect.Constructor;
import java.lang.reflect.Field;
import java.lang.reflect.Method;
import java.lang.reflect.Modifier;
import java.nio.charset.StandardCharsets;
import java.nio.file.Files;
import java.nio.file.Path;
import java.util.Arrays;
import java.util.List;
import java.util.Set;
import java.util.TreeSet;
import java.util.regex.Matcher;
import java.util.regex.Pattern;

/** What of ../shared/LANGUAGE.md can be seen from the class and from its text. */
public final class LanguageTests {
    static final Path SOURCE = Path.of("src/main/java/PupilCoin.java");
    static final String FACE = "boolean day(int) int school(int,int,int) boolean need(int,int) boolean road(int,int,int) int far(int,int) "
        + "int mark(int,int,int,int) int marked(int,int,int,int) int join(int,int,int) int open(int,int) int feed(int,int,int,int,int) "
        + "int formula(int,int) int beside(int) int fault() int law(int,int,int) long sum(int,int,int) long led(int,int,int) "
        + "long due(int,int) long all(int,int) int propose(int,int,int,int,int) boolean object(int,int) int adopt(int) "
        + "long other(int,int) int losers(int) long edge(int,int,int) long rates(int,int,int,int,int) int foretold(int,int,int,int) "
        + "int doubt(int,int) int count(int)";
    static int wrong;

    public static void main(String[] args) throws IOException {
        face();
        for (Class<?> c : PupilCoin.class.getDeclaredClasses()) inside(c);
        say(PupilCoin.class.getDeclaredClasses().length > 11, "too many classes");
        text(Files.readString(SOURCE, StandardCharsets.ISO_8859_1));
        System.out.println(wrong + " rules broken");
        if (wrong != 0) System.exit(1);
    }

    static void say(boolean broken, String what) {
        if (!broken) return;
        wrong++;
        System.out.println(what);
    }

    static void face() {
        Set<String> due = new TreeSet<>(Arrays.asList(FACE.split("(?<=\\)) ")));
        Set<String> is = new TreeSet<>();
        Set<String> names = new TreeSet<>();
        for (Method m : PupilCoin.class.getDeclaredMethods()) {
            if (!Modifier.isPublic(m.getModifiers())) continue;
            is.add(m.getReturnType() + " " + m.getName() + Arrays.toString(m.getParameterTypes()).replace(" ", "").replace('[', '(').replace(']', ')'));
            names.add(m.getName());
        }
        say(!due.equals(is), "the face is " + is);
        say(!Modifier.isFinal(PupilCoin.class.getModifiers()), "the class isn't final");
        say(PupilCoin.class.getConstructors().length != 1 || PupilCoin.class.getDeclaredConstructors().length != 1, "not one constructor");
        for (Method m : PupilCoin.class.getDeclaredMethods()) {
            if (Modifier.isPublic(m.getModifiers())) continue;
            say(!Modifier.isPrivate(m.getModifiers()), "visible: " + m);
            say(names.contains(m.getName()), "bears a public one's name: " + m);
        }
        for (Field f : PupilCoin.class.getDeclaredFields()) {
            say(!Modifier.isPrivate(f.getModifiers()) && !f.getName().equals("NONE"), "visible: " + f);
        }
        members(PupilCoin.class);
        for (Class<?> c : PupilCoin.class.getDeclaredClasses()) {
            for (Method m : c.getDeclaredMethods()) say(names.contains(m.getName()), "bears a public one's name: " + m);
        }
    }

    static void inside(Class<?> c) {
        say(!Modifier.isStatic(c.getModifiers()), "isn't static: " + c);
        say(Modifier.isPublic(c.getModifiers()) || Modifier.isProtected(c.getModifiers()), "is visible: " + c);
        members(c);
    }

    static void members(Class<?> c) {
        int fields = 0;
        for (Field f : c.getDeclaredFields()) {
            boolean constant = Modifier.isStatic(f.getModifiers());
            say(constant && !Modifier.isFinal(f.getModifiers()), "isn't final: " + f);
            if (!constant) fields++;
        }
        say(fields > 20, fields + " fields: " + c);
        for (Method m : c.getDeclaredMethods()) say(m.getParameterCount() > 7, "many parameters: " + m);
        for (Constructor<?> k : c.getDeclaredConstructors()) say(k.getParameterCount() > 7, "many parameters: " + k);
        for (String own : List.of("equals", "hashCode", "toString")) {
            for (Method m : c.getDeclaredMethods()) say(m.getName().equals(own), "own " + m);
        }
    }

    static void text(String source) {
        for (int i = 0; i < source.length(); i++) say(source.charAt(i) > 126, "a sign beyond 126 at " + i);
        String code = source.replaceAll("(?s)/\\*.*?\\*/", "").replaceAll("//[^\n]*", "").replaceAll("\"[^\"]*\"", "\"\"");
        String[] banned = {"\\bthrows?\\b", "\\btry\\b", "\\bcatch\\b", "\\bsynchronized\\b", "\\bassert\\b", "->", "::", "\\bpackage\\b",
            "\\w+Exact\\b", "\\bSystem\\.(?!arraycopy\\b)", "\\bString\\.", "\\bObject\\b", "\\bThread\\b", "\\bRandom\\b", "\\bwhile\\b",
            "\\bvar\\b", "\\bArrays\\.(?!(copyOf|copyOfRange|fill)\\b)", "\\[\\]\\[\\]\\[\\]", "@"};
        for (String b : banned) {
            Matcher m = Pattern.compile(b).matcher(code);
            while (m.find()) say(true, "the text has " + m.group());
        }
        Matcher imports = Pattern.compile("import ([^;]+);").matcher(code);
        while (imports.find()) say(!imports.group(1).equals("java.util.Arrays"), "imports " + imports.group(1));
        lengths(code.split("\n", -1));
    }

    /** Methods begin and end on lines of one indent, 4 or 8. */
    static void lengths(String[] lines) {
        for (int i = 0; i < lines.length; i++) {
            if (!lines[i].matches(" {4}( {4})?[A-Za-z].*\\) \\{")) continue;
            String end = lines[i].startsWith("        ") ? "        }" : "    }";
            if (lines[i].matches(" *(if|for|switch|else).*")) continue;
            int to = i;
            while (to < lines.length && !lines[to].equals(end)) to++;
            say(to - i > 60, "long: " + lines[i]);
        }
    }
}
