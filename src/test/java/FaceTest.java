import java.io.IOException;
import java.lang.reflect.Constructor;
import java.lang.reflect.Field;
import java.lang.reflect.Method;
import java.lang.reflect.Modifier;
import java.nio.file.Files;
import java.nio.file.Path;
import java.util.Set;
import java.util.TreeSet;
import java.util.regex.Matcher;
import java.util.regex.Pattern;

/** The public face, and what of LANGUAGE.md can be seen in the file's words. */
public final class FaceTest {
    private static final String FACE = "feed(int) end(int) text() fault() rule(int) cell(int,int) edge(int) stock(int,int) law(int,int) ripe(int) "
            + "lay(int,int,int) bare(int) sow(int,int) own(int,int) wall(int,boolean) store(int,int) price(int,int) fund(int) bite(int,int) "
            + "week(int) ahead(int,int,int) spreads() comes(int,int) when(int) again() plan(int,int,int) most(int,int) fence(int,int) "
            + "blame(int,int) luck(int,int,int,int) see(int,int) forget(int) rows(int,int,int) sure(int,int,int) sown(int) "
            + "drift(int,int,int) keep(int) back(int) sheet(int,int,int) put(int,int,int) read(int,int,int,int) torn() count(int)";

    public static void main(String[] args) throws IOException {
        methods();
        fields();
        inside();
        String source = Files.readString(Path.of("src/main/java/SeasonYard.java"));
        words(source);
        lengths(source.split("\n"));
        Checks.finish("FaceTest");
    }

    private static void due(String what, boolean is) {
        Checks.due(what, is ? 1 : 0, 1);
    }

    private static void methods() {
        Set<String> face = new TreeSet<>(Set.of(FACE.split(" ")));
        Set<String> names = new TreeSet<>();
        for (String f : face) {
            names.add(f.substring(0, f.indexOf('(')));
        }
        Set<String> shown = new TreeSet<>();
        for (Method m : SeasonYard.class.getDeclaredMethods()) {
            StringBuilder form = new StringBuilder();
            for (Class<?> p : m.getParameterTypes()) {
                form.append(form.length() == 0 ? "" : ",").append(p.getSimpleName());
            }
            if (Modifier.isPublic(m.getModifiers())) {
                shown.add(m.getName() + "(" + form + ")");
                due(m + " answers", m.getReturnType() == (m.getName().equals("luck") ? long.class : int.class));
            } else {
                due(m + " is private", Modifier.isPrivate(m.getModifiers()));
                due(m + " has a name of its own", !names.contains(m.getName()));
            }
        }
        due("the methods are " + shown, shown.equals(face));
        Constructor<?>[] all = SeasonYard.class.getDeclaredConstructors();
        due("one constructor", all.length == 1 && Modifier.isPublic(all[0].getModifiers()) && all[0].getParameterCount() == 0);
        due("final", Modifier.isFinal(SeasonYard.class.getModifiers()));
    }

    private static void fields() {
        Set<String> shown = new TreeSet<>();
        for (Field f : SeasonYard.class.getDeclaredFields()) {
            if (Modifier.isPublic(f.getModifiers())) {
                shown.add(f.getName());
            } else {
                due(f + " is private", Modifier.isPrivate(f.getModifiers()));
            }
            due(f + " is final if static", !Modifier.isStatic(f.getModifiers()) || Modifier.isFinal(f.getModifiers()));
        }
        due("the constants are " + shown, shown.equals(Set.of("BAD", "STATE", "FULL", "NONE")));
    }

    private static void inside() {
        Class<?>[] all = SeasonYard.class.getDeclaredClasses();
        due("some twelve classes", all.length < 12);
        for (Class<?> c : all) {
            int own = 0;
            for (Field f : c.getDeclaredFields()) {
                own += Modifier.isStatic(f.getModifiers()) ? 0 : 1;
                due(f + " is final if static", !Modifier.isStatic(f.getModifiers()) || Modifier.isFinal(f.getModifiers()));
            }
            due(c + " has some twenty fields", own <= 20);
            due(c + " is static", Modifier.isStatic(c.getModifiers()) && !Modifier.isPublic(c.getModifiers()));
            for (Method m : c.getDeclaredMethods()) {
                due(m + " has at most seven parameters", m.getParameterCount() <= 7);
                due(m + " has a name of its own", !(" " + FACE).contains(" " + m.getName() + "("));
            }
        }
    }

    private static void words(String source) {
        String[] never = {"\\bthrow\\b", "\\btry\\b", "\\bcatch\\b", "\\bsynchronized\\b", "\\bassert\\b", "->", "::", "\\bstatic \\{",
            "\\bpackage\\b", "\\bequals\\(", "\\bhashCode\\b", "\\btoString\\b", "Exact\\b", "\\bprotected\\b", "\\bSystem\\.(?!arraycopy)", "\\bnull\\b"};
        for (String word : never) {
            Matcher m = Pattern.compile(word).matcher(source);
            due("no " + word, !m.find());
        }
        Matcher imports = Pattern.compile("\\bimport ([a-zA-Z.]+);").matcher(source);
        while (imports.find()) {
            due("import " + imports.group(1), imports.group(1).equals("java.util.Arrays"));
        }
        for (int i = 0; i < source.length(); i++) {
            due("signs of 1 to 127", source.charAt(i) < 128);
        }
    }

    /** Methods begin and end at the same indent: that of the class's own ones, or of a class inside. */
    private static void lengths(String[] lines) {
        int methods = 0;
        for (int from = 0; from < lines.length; from++) {
            Matcher head = Pattern.compile("(    |        )[^ /*].*\\) \\{").matcher(lines[from]);
            if (head.matches() && !lines[from].matches(" *(if|for|while|switch|do|else)\\b.*")) {
                int to = from;
                while (to < lines.length && !lines[to].equals(head.group(1) + "}")) {
                    to++;
                }
                methods++;
                due("a short method: " + lines[from].trim(), to - from < 60);
            }
        }
        due("methods are found", methods > 100);
    }
}
