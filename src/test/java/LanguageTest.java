import java.io.IOException;
import java.lang.reflect.Constructor;
import java.lang.reflect.Field;
import java.lang.reflect.Method;
import java.lang.reflect.Modifier;
import java.nio.file.Files;
import java.nio.file.Path;
import java.util.ArrayList;
import java.util.List;
import java.util.Set;
import java.util.TreeSet;
import java.util.regex.Matcher;
import java.util.regex.Pattern;

/** The rules of LANGUAGE.md, as far as they can be seen from the compiled class and the text of the source. */
public final class LanguageTest {
    private static final Set<String> FACE = Set.of("feed(int,int,int,int,int)int", "offices(int)int", "fault()int",
        "count(int)int", "agent(int,int)int", "line(int,int)int", "secret(int,int)int", "knows(int,int,int)int",
        "chain(int,int,int)int", "known(int,int)int", "turn(int)int", "move(int)int", "burn(int,boolean)boolean",
        "cut(int,boolean)boolean", "plant(int,int,int)int", "undo()int", "silence(int,int)int", "matters(int)int",
        "dearest()int", "heard(int,int)int", "more(int,int)int", "word(int)int", "exchange(int)int", "waves(int)int",
        "farthest()int", "see(int,int,int,boolean)int", "who(int,int)int", "forget()void", "game(int)int",
        "years(int,int,int)int", "image()void", "restore()boolean");
    private static final String[] FORBIDDEN = {"\\bcatch\\b", "\\btry\\b", "\\bfinally\\b", "\\bassert\\b",
        "\\bsynchronized\\b", "->", "::", "\\bstatic\\s*\\{", "\\bprotected\\b", "\\bdouble\\b(?!\")", "\\bfloat\\b",
        "\\bSystem\\.(?!arraycopy\\b)", "Exact\\b", "\\bMath\\.(?!max\\b|min\\b)", "\\bInteger\\.(?!bitCount\\b)",
        "\\bThread\\b", "\\bRandom\\b", "\\bObject\\b", "\\binstanceof\\b", "\\bhashCode\\b", "\\btoString\\b",
        "\"\\s*\\+", "\\+\\s*\"", "[^\\x00-\\x7f]", "\\bnull\\b", "\\bpackage\\b"};

    public static void main(String[] args) throws IOException {
        face();
        List<Class<?>> all = new ArrayList<>(List.of(WavingDesks.class.getDeclaredClasses()));
        all.add(WavingDesks.class);
        Due.is("classes are at most 12", all.size() <= 12, true);
        for (Class<?> c : all) {
            inside(c);
        }
        source();
        Due.end("LanguageTest");
    }

    private static String told(Method m) {
        StringBuilder s = new StringBuilder(m.getName()).append('(');
        for (Class<?> p : m.getParameterTypes()) {
            s.append(s.charAt(s.length() - 1) == '(' ? "" : ",").append(p.getName());
        }
        return s.append(')').append(m.getReturnType().getName()).toString();
    }

    private static void face() {
        Class<?> c = WavingDesks.class;
        Due.is("public and final", c.getModifiers(), Modifier.PUBLIC | Modifier.FINAL);
        Set<String> open = new TreeSet<>();
        for (Method m : c.getDeclaredMethods()) {
            if (!Modifier.isPrivate(m.getModifiers()) && !m.isSynthetic()) {
                open.add(told(m));
                Due.is(m + " is public and no static", m.getModifiers(), Modifier.PUBLIC);
            }
        }
        Due.is("the face's methods", open, new TreeSet<>(FACE));
        for (Field f : c.getDeclaredFields()) {
            boolean none = f.getName().equals("NONE");
            Due.is(f + " is private, or NONE", Modifier.isPrivate(f.getModifiers()), !none);
        }
        Due.is("NONE", WavingDesks.NONE, -1);
        Constructor<?>[] made = c.getDeclaredConstructors();
        Due.is("one constructor", made.length, 1);
        Due.is("it is public, without parameters",
            Modifier.isPublic(made[0].getModifiers()) && made[0].getParameterCount() == 0, true);
    }

    private static void inside(Class<?> c) {
        if (c != WavingDesks.class) {
            Due.is(c + " is static", Modifier.isStatic(c.getModifiers()), true);
            Due.is(c + " is not public", Modifier.isPublic(c.getModifiers()), false);
        }
        Set<String> names = new TreeSet<>();
        for (String m : FACE) {
            names.add(m.substring(0, m.indexOf('(')));
        }
        for (Method m : c.getDeclaredMethods()) {
            boolean ofFace = c == WavingDesks.class && Modifier.isPublic(m.getModifiers());
            Due.is(m + " bears no name of the face", !ofFace && names.contains(m.getName()), false);
            Due.is(m + " has at most seven parameters", m.getParameterCount() <= 7, true);
        }
        int own = 0;
        for (Field f : c.getDeclaredFields()) {
            if (Modifier.isStatic(f.getModifiers())) {
                Due.is(f + " is final", Modifier.isFinal(f.getModifiers()), true);
                Due.is(f + " is a constant", f.getType() == int.class, true);
            } else {
                own++;
            }
        }
        Due.is(c + " has at most twenty fields", own <= 20, true);
    }

    private static void source() throws IOException {
        String text = Files.readString(Path.of("src/main/java/WavingDesks.java"));
        String code = text.replaceAll("(?s)/\\*.*?\\*/", "").replaceAll("//[^\n]*", "");
        for (String bad : FORBIDDEN) {
            Matcher m = Pattern.compile(bad).matcher(code);
            Due.is("the source has " + bad, m.find() ? m.group() : "", "");
        }
        Matcher imports = Pattern.compile("import ([^;]*);").matcher(code);
        while (imports.find()) {
            Due.is("import", imports.group(1), "java.util.NoSuchElementException");
        }
        Matcher thrown = Pattern.compile("throw ([^;]*);").matcher(code);
        while (thrown.find()) {
            Due.is(thrown.group(), thrown.group(1).matches(
                "new (NoSuchElementException|IllegalArgumentException)\\(\"[a-z ]*\"\\)"), true);
        }
        methodsAreShort(code.split("\n"));
    }

    /** A method's lines stand deeper than its first and last one. */
    private static void methodsAreShort(String[] lines) {
        Pattern head = Pattern.compile("( {4}| {8})[a-z][^=;]*\\) (throws [A-Za-z, ]*)?\\{");
        for (int i = 0; i < lines.length; i++) {
            Matcher m = head.matcher(lines[i]);
            if (m.matches()) {
                int end = i;
                while (end < lines.length && !lines[end].equals(m.group(1) + "}")) {
                    end++;
                }
                Due.is("at most sixty lines:" + lines[i], end - i < 60, true);
            }
        }
    }
}
