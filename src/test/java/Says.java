import java.io.IOException;
import java.nio.file.Files;
import java.nio.file.Path;
import java.util.LinkedHashMap;
import java.util.Map;
import java.util.function.IntToLongFunction;

/**
 * Ties each test to the words of the document that it holds the class to. Words that the document does
 * not say, words without a test and, at the end, words of a section that no test holds are all wrong.
 */
final class Says {
    private static final Path DOCUMENT = Path.of("../shared/DOC.md");

    private final Check check = new Check();
    private final String document;
    private final boolean[] held;
    private final Map<String, int[]> sections = new LinkedHashMap<>();
    private int[] section = {0, 0};
    private String heading = "";
    private String words = "";
    private boolean asked = true;

    Says() throws IOException {
        document = Files.readString(DOCUMENT);
        held = new boolean[document.length()];
    }

    /** The section below a heading, up to the next one. */
    void section(String title) {
        endWords();
        heading = title;
        int at = document.indexOf("\n## " + title);
        check.eq("the document has a section " + title, at >= 0 ? 1 : 0, 1);
        int from = at < 0 ? 0 : document.indexOf('\n', at + 1);
        int upTo = document.indexOf("\n## ", from);
        section = new int[] {from, upTo < 0 ? document.length() : upTo};
        sections.put(title, section);
    }

    /** The tests that follow hold the class to these words of the section. */
    void says(String said) {
        endWords();
        words = said;
        asked = false;
        int at = document.indexOf(said, section[0]);
        boolean found = at >= 0 && at + said.length() <= section[1];
        check.eq(heading + " says \"" + said + "\"", found ? 1 : 0, 1);
        for (int i = 0; found && i < said.length(); i++) {
            held[at + i] = true;
        }
    }

    void eq(String call, long got, long want) {
        asked = true;
        check.eq(heading + ", \"" + words + "\": " + call, got, want);
    }

    /** Every number around and far from 0 .. count - 1, such as wrap around into it, too, is answered so. */
    void beyond(String call, int count, long answer, IntToLongFunction asked) {
        int[] far = {-1, count, count + 1, -32, 31, 32, 33, 64, 128, 256, 65536, 1 << 30, Integer.MIN_VALUE,
            Integer.MIN_VALUE + 1, Integer.MAX_VALUE, Integer.MAX_VALUE - 1};
        for (int n : far) {
            if (n < 0 || n >= count) {
                eq(call + " of " + n, asked.applyAsLong(n), answer);
            }
        }
    }

    private void endWords() {
        if (!asked) {
            check.eq(heading + ", \"" + words + "\": tests", 0, 1);
        }
        asked = true;
    }

    void end(String name, int sectionsDue) {
        endWords();
        check.eq("sections", sections.size(), sectionsDue);
        for (Map.Entry<String, int[]> one : sections.entrySet()) {
            String unheld = unheld(one.getValue()[0], one.getValue()[1]);
            check.eq(one.getKey() + ": no test holds the class to \"" + unheld + "\"", unheld.isEmpty() ? 0 : 1, 0);
        }
        check.end(name);
    }

    /** Words that no test holds, the face of a method (between ` and `) and the fence of a block aside. */
    private String unheld(int from, int upTo) {
        StringBuilder rest = new StringBuilder();
        boolean face = false;
        int i = from;
        while (i < upTo) {
            char c = document.charAt(i);
            if (document.startsWith("```", i)) {
                i = document.indexOf('\n', i);
                continue;
            }
            face ^= c == '`';
            if (!face && !held[i] && c != '`' && " \n.,;:()".indexOf(c) < 0) {
                rest.append(c);
            }
            i++;
        }
        return rest.toString();
    }
}
