import java.io.IOException;
import java.lang.reflect.Constructor;
import java.lang.reflect.Field;
import java.lang.reflect.Method;
import java.lang.reflect.Modifier;
import java.nio.file.Files;
import java.nio.file.Path;
import java.util.Arrays;
import java.util.Set;
import java.util.TreeSet;
import java.util.regex.Matcher;
import java.util.regex.Pattern;

/** The document's face is all that shows of FoundOffice, and its source keeps out of what LANGUAGE.md rules out. */
public final class FaceTest {
    private static final Path SOURCE = Path.of("src", "main", "java", "FoundOffice.java");
    private static final String[] DUE = {
        "int question(int,int,int)", "boolean may(int,int,int,boolean)", "int mays(int,int,int)",
        "int thing(int,int,boolean,int)", "int report(int)", "boolean mark(boolean,int,int,int)",
        "boolean tear(boolean,int,int)", "int known(boolean,int,int)", "int length(boolean,int)",
        "int fits(int,int)", "int tells(int,int)", "int strength(int,int)", "int fitting(int)",
        "int fit(int,int)", "int best(int)", "int sum(int)", "int also(int)", "int group(int,int)",
        "int like(int,int)", "int parts(int,int)", "int ask(int)", "int fewest(int)", "int claim(int,int)",
        "int prove(int,int,int)", "int give(int)", "boolean withdraw(int)", "boolean close(int)",
        "int claimed(int,int) throws java.util.NoSuchElementException", "boolean into(int,int)",
        "int place(int,int) throws java.util.NoSuchElementException", "boolean days(int,int)", "int day(int)",
        "int count(int)", "int gone(int)"};
    private static final String[] RULED_OUT = {
        "->", "::", "\\bcatch\\b", "\\btry\\b", "\\bfinally\\b", "\\bsynchronized\\b", "\\bassert\\b",
        "\\binstanceof\\b", "\\bpackage\\b", "\\bprotected\\b", "\\bprintln\\b", "\\bRandom\\b", "\\bSystem\\b",
        "\\bThread\\b", "\\bstatic\\s*\\{", "Exact\\("};

    private FaceTest() {
    }

    public static void main(String[] args) throws IOException {
        members();
        nestedClasses();
        source();
        Check.end("FaceTest");
    }

    private static void members() {
        Set<String> names = new TreeSet<>();
        Set<String> shown = new TreeSet<>();
        for (Method m : FoundOffice.class.getDeclaredMethods()) {
            if (Modifier.isPublic(m.getModifiers())) {
                names.add(m.getName());
                shown.add(m.toString().replace("public ", "").replace("FoundOffice.", ""));
            }
        }
        Check.yes("the public methods: " + shown, shown.equals(new TreeSet<>(Arrays.asList(DUE))));
        for (Method m : FoundOffice.class.getDeclaredMethods()) {
            boolean isPrivate = Modifier.isPrivate(m.getModifiers());
            Check.yes(m + " is public or private", isPrivate || Modifier.isPublic(m.getModifiers()));
            Check.no(m + " bears a public name", isPrivate && names.contains(m.getName()));
        }
        for (Field f : FoundOffice.class.getDeclaredFields()) {
            boolean isFace = f.getName().equals("NONE");
            Check.yes(f + " is private", isFace || Modifier.isPrivate(f.getModifiers()));
            Check.yes(f + " is no static state", !Modifier.isStatic(f.getModifiers())
                    || Modifier.isFinal(f.getModifiers()));
        }
        Constructor<?>[] makers = FoundOffice.class.getDeclaredConstructors();
        Check.same("constructors", makers.length, 1);
        Check.yes("a public one without arguments", Modifier.isPublic(makers[0].getModifiers())
                && makers[0].getParameterCount() == 0);
        Check.yes("final", Modifier.isFinal(FoundOffice.class.getModifiers()));
    }

    private static void nestedClasses() {
        Class<?>[] nested = FoundOffice.class.getDeclaredClasses();
        Check.yes("at most twelve classes", nested.length < 12);
        for (Class<?> c : nested) {
            int is = c.getModifiers();
            Check.yes(c + " is static and not public", Modifier.isStatic(is) && !Modifier.isPublic(is));
            for (Method m : c.getDeclaredMethods()) {
                Check.yes(m + " takes at most seven", m.getParameterCount() <= 7);
            }
        }
    }

    private static void source() throws IOException {
        String text = Files.readString(SOURCE).replaceAll("(?s)/\\*.*?\\*/|//[^\n]*", "");
        for (String pattern : RULED_OUT) {
            Matcher found = Pattern.compile(pattern).matcher(text);
            Check.no("the source has " + pattern, found.find());
        }
        Matcher imports = Pattern.compile("import ([^;]*);").matcher(text);
        while (imports.find()) {
            Check.yes(imports.group(1), imports.group(1).equals("java.util.NoSuchElementException"));
        }
        Matcher made = Pattern.compile("(?m)^ {8}.*\\bnew (?!NoSuchElementException)").matcher(text);
        String constructor = text.substring(text.indexOf("public FoundOffice()"), text.indexOf("today = 0;"));
        while (made.find()) {
            String line = made.group();
            Check.yes("made with the object: " + line, line.contains("private final") || constructor.contains(line));
        }
    }
}
