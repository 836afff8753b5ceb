import java.io.IOException;
import java.lang.reflect.Method;
import java.lang.reflect.Modifier;
import java.nio.file.Files;
import java.nio.file.Path;
import java.util.Set;
import java.util.TreeSet;
import java.util.regex.Matcher;
import java.util.regex.Pattern;

/** What of LANGUAGE.md can be seen without reading closely: banned words, the face, long methods, names. */
public final class LanguageTest {
    private static final Set<String> FACE = Set.of("feed", "end", "corner", "rule", "begin", "speak", "toss", "still", "run",
            "would", "side", "fill", "have", "move", "enough", "hidden", "fair", "bribe", "plays", "waits", "order", "seed", "lots",
            "count", "image", "back");

    public static void main(String[] args) throws IOException {
        String source = Files.readString(Path.of("src/main/java/LastWords.java"));
        String code = source.replaceAll("(?s)/\\*.*?\\*/", "").replaceAll("//[^\n]*", "").replaceAll("\"[^\"\n]*\"", "\"\"");
        for (String banned : new String[] {"\\bthrow\\b", "\\btry\\b", "\\bcatch\\b", "\\bsynchronized\\b", "\\bassert\\b", "->", "::",
            "\\bprotected\\b", "\\bpackage\\b", "Exact\\(", "\\bstatic\\s*\\{", "\\bdouble\\b", "\\bfloat\\b", "@", "\\bSystem\\.(?!arraycopy)"}) {
            due("the source has " + banned, Pattern.compile(banned).matcher(code).find() ? 1 : 0, 0);
        }
        due("imports", count(code, "\\bimport\\b"), count(code, "\\bimport java\\.util\\.Arrays;"));
        due("classes are few", Math.max(13, count(code, "\\bclass\\b")), 13);
        due("nested classes are static", count(code, "\\bclass\\b"), 1 + count(code, "private static final class"));
        face();
        methods(code);
        Asker.finish("LanguageTest");
    }

    private static void due(String what, int got, int want) {
        Asker.due(what, got, want);
    }

    private static int count(String text, String what) {
        int found = 0;
        for (Matcher m = Pattern.compile(what).matcher(text); m.find();) {
            found++;
        }
        return found;
    }

    private static void face() {
        Set<String> seen = new TreeSet<>();
        for (Method m : LastWords.class.getDeclaredMethods()) {
            if (!Modifier.isPrivate(m.getModifiers()) && !m.isSynthetic()) {
                seen.add(m.getName());
                due(m.getName() + " is of the face", FACE.contains(m.getName()) ? 1 : 0, 1);
                due(m.getName() + " is public", Modifier.isPublic(m.getModifiers()) ? 1 : 0, 1);
            }
        }
        due("all of the face", seen.size(), FACE.size());
        for (Class<?> inside : LastWords.class.getDeclaredClasses()) {
            for (Method m : inside.getDeclaredMethods()) {
                due(inside.getSimpleName() + "." + m.getName() + " bears a name of the face", FACE.contains(m.getName()) ? 1 : 0, 0);
                due(m.getName() + " has few parameters", Math.max(7, m.getParameterCount()), 7);
            }
        }
    }

    private static void methods(String code) {
        String[] lines = code.split("\n");
        int start = -1;
        String end = "";
        for (int i = 0; i < lines.length; i++) {
            Matcher m = Pattern.compile("^( +)(?:[a-z]+ )*[A-Za-z\\[\\]]+ ?[A-Za-z]*\\([^;]*\\) \\{$").matcher(lines[i]);
            boolean control = lines[i].trim().matches("(\\} )?(if|for|while|switch|else).*");
            if (m.find() && !control) {
                start = i;
                end = m.group(1) + "}";
            }
            if (start >= 0 && lines[i].equals(end)) {
                due("lines from " + lines[start].trim(), Math.max(60, i - start + 1), 60);
                start = -1;
            }
        }
    }
}
