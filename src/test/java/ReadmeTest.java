import java.io.IOException;
import java.nio.file.Files;
import java.nio.file.Path;
import java.util.regex.Matcher;
import java.util.regex.Pattern;

/** The example in README.md answers what it says there, and every call of the face is named there. */
public final class ReadmeTest {
    private static final Pattern TEXT = Pattern.compile("String text = \"([^\"]*)\";");
    private static final Pattern CALL = Pattern.compile("yard\\.(\\w+)\\(([0-9, ]*)\\);\\s+// (-?[0-9]+)\\b");

    public static void main(String[] args) throws IOException {
        String readme = Files.readString(Path.of("README.md"));
        example(readme);
        for (java.lang.reflect.Method m : SeasonYard.class.getDeclaredMethods()) {
            if (java.lang.reflect.Modifier.isPublic(m.getModifiers())) {
                Checks.due("README.md names " + m.getName(), readme.contains("`" + m.getName() + "`") ? 1 : 0, 1);
            }
        }
        Checks.finish("ReadmeTest");
    }

    private static void example(String readme) {
        Matcher text = TEXT.matcher(readme);
        Checks.due("a text", text.find() ? 1 : 0, 1);
        SeasonYard yard = new SeasonYard();
        Twin twin = new Twin();
        for (char c : text.group(1).toCharArray()) {
            yard.feed(c);
            twin.call("feed", c);
        }
        int calls = 0;
        for (Matcher call = CALL.matcher(readme); call.find(); calls++) {
            String[] words = call.group(2).isEmpty() ? new String[0] : call.group(2).split(", *");
            int[] n = new int[4];
            for (int i = 0; i < words.length; i++) {
                n[i] = Integer.parseInt(words[i]);
            }
            int due = Integer.parseInt(call.group(3));
            Checks.due("README.md: " + call.group(), answered(yard, call.group(1), n), due);
            Checks.due("README.md, the twin: " + call.group(), twin.call(call.group(1), n), due);
        }
        Checks.due("calls with answers", calls, 9);
    }

    private static long answered(SeasonYard yard, String name, int[] n) {
        switch (name) {
            case "text": return yard.text();
            case "when": return yard.when(n[0]);
            case "blame": return yard.blame(n[0], n[1]);
            case "plan": return yard.plan(n[0], n[1], n[2]);
            case "luck": return yard.luck(n[0], n[1], n[2], n[3]);
            case "lay": return yard.lay(n[0], n[1], n[2]);
            case "week": return yard.week(n[0]);
            case "ripe": return yard.ripe(n[0]);
            default: return Long.MIN_VALUE;
        }
    }
}
