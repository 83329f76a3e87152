import java.io.IOException;
import java.nio.file.Files;
import java.nio.file.Path;
import java.util.ArrayList;
import java.util.HashMap;
import java.util.List;
import java.util.Map;
import java.util.regex.Matcher;
import java.util.regex.Pattern;

/** The methods of the program's text: how long each is, and which of them it calls. */
final class SourceMethods {
    private static final Pattern BEGINS =
        Pattern.compile("^(?: {4}| {8})(?:(?:public|private|static|final) )*(?:[\\w\\[\\]]+ )?(\\w+)\\([^;]*\\) \\{$");
    private static final Pattern NEW_OBJECT = Pattern.compile("\\bnew (\\w+)\\(");
    private static final Pattern NAME = Pattern.compile("\\b(\\w+)\\(");

    final List<String> names = new ArrayList<>();
    final Map<String, String> bodies = new HashMap<>();

    SourceMethods(Path file) throws IOException {
        String text = Files.readString(file).replaceAll("(?s)/\\*.*?\\*/", "").replaceAll("//[^\n]*", "");
        String name = null;
        String indent = "";
        StringBuilder body = new StringBuilder();
        for (String line : text.split("\n")) {
            Matcher begins = BEGINS.matcher(line);
            if (name == null && begins.matches()) {
                name = begins.group(1);
                indent = line.substring(0, line.length() - line.stripLeading().length());
                body.setLength(0);
            } else if (name != null && line.equals(indent + "}")) {
                names.add(name);
                bodies.merge(name, body.toString(), String::concat); // of the same name: taken as one
                name = null;
            } else if (name != null) {
                body.append(line).append('\n');
            }
        }
    }

    int lines(String name) {
        return (int) bodies.get(name).lines().count() + 2;
    }

    boolean makes(String name) {
        return Pattern.compile("\\bnew \\w").matcher(bodies.get(name)).find();
    }

    private boolean[][] calls() {
        boolean[][] calls = new boolean[names.size()][names.size()];
        for (int i = 0; i < calls.length; i++) {
            String body = bodies.get(names.get(i));
            for (Pattern pattern : new Pattern[] {NAME, NEW_OBJECT}) {
                Matcher found = pattern.matcher(body);
                while (found.find()) {
                    int at = names.indexOf(found.group(1));
                    if (at >= 0) {
                        calls[i][at] = true;
                    }
                }
            }
        }
        return calls;
    }

    /** How many calls stand open at most, those that call one another in a round taken as one. */
    int deepest() {
        boolean[][] calls = calls();
        boolean[][] reaches = reaches(calls);
        int[] depths = new int[calls.length];
        int deepest = 0;
        for (int i = 0; i < calls.length; i++) {
            deepest = Math.max(deepest, depth(i, calls, reaches, depths));
        }
        return deepest;
    }

    private static boolean[][] reaches(boolean[][] calls) {
        int size = calls.length;
        boolean[][] reaches = new boolean[size][];
        for (int i = 0; i < size; i++) {
            reaches[i] = calls[i].clone();
        }
        for (int by = 0; by < size; by++) {
            for (int i = 0; i < size; i++) {
                for (int j = 0; j < size && reaches[i][by]; j++) {
                    reaches[i][j] |= reaches[by][j];
                }
            }
        }
        return reaches;
    }

    private static int depth(int of, boolean[][] calls, boolean[][] reaches, int[] depths) {
        if (depths[of] == 0) {
            int below = 0;
            for (int i = 0; i < calls.length; i++) {
                boolean one = i == of || reaches[of][i] && reaches[i][of];
                for (int j = 0; j < calls.length && one; j++) {
                    if (calls[i][j] && j != of && !(reaches[of][j] && reaches[j][of])) {
                        below = Math.max(below, depth(j, calls, reaches, depths));
                    }
                }
            }
            depths[of] = below + 1;
        }
        return depths[of];
    }
}
