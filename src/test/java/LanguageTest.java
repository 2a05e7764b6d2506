import java.lang.reflect.Constructor;
import java.lang.reflect.Field;
import java.lang.reflect.Method;
import java.lang.reflect.Modifier;
import java.nio.file.Files;
import java.nio.file.Path;
import java.util.HashMap;
import java.util.HashSet;
import java.util.Map;
import java.util.Set;
import java.util.regex.Matcher;
import java.util.regex.Pattern;

/** The rules of LANGUAGE.md that can be told from the file and the class alone. */
public final class LanguageTest {
    private static final Check CHECK = new Check();
    private static final Path SOURCE = Path.of("src/main/java/DrinkingStones.java");
    private static final Path DOCUMENT = Path.of("../shared/DOC.md");
    /** A method's or constructor's first line: how far in it stands, its name, its parameters. */
    private static final Pattern HEAD = Pattern.compile(
            "(?m)^( {4}| {8})(?:public |private |static |final )*(?:[\\w\\[\\]]+ )?(\\w+)\\(([^)]*)\\) \\{$");

    public static void main(String[] args) throws Exception {
        String code = stripped(Files.readString(SOURCE));
        forbidden(code);
        methods(code);
        calls(code);
        face();
        nested();
        CHECK.end("LanguageTest");
    }

    private static void ok(String what, boolean good) {
        CHECK.eq(what, good ? 1 : 0, 1);
    }

    private static String stripped(String source) {
        return source.replaceAll("(?s)/\\*.*?\\*/", "").replaceAll("//[^\n]*", "").replaceAll("\"[^\"\n]*\"", "\"\"");
    }

    private static void forbidden(String code) {
        String[] words = {"throw", "throws", "try", "catch", "synchronized", "assert", "import", "package", "native", "volatile",
            "transient", "protected", "hashCode", "toString", "values", "System.out", "var"};
        for (String word : words) {
            ok("rule 6, 4: " + word, !Pattern.compile("\\b" + Pattern.quote(word) + "\\b").matcher(code).find());
        }
        ok("no lambda, no method reference", !code.contains("->") && !code.contains("::"));
        ok("no Exact", !code.contains("Exact"));
        ok("no joining by +", !code.contains("\"\" +") && !code.contains("+ \"\""));
        Matcher library = Pattern.compile("\\b(System|Math|Integer|Long|Arrays)\\.(\\w+)").matcher(code);
        Set<String> allowed = Set.of("System.arraycopy", "Math.max", "Math.min", "Math.abs", "Integer.bitCount");
        while (library.find()) {
            ok("rule 4: " + library.group(), allowed.contains(library.group()));
        }
        for (char c : code.toCharArray()) {
            if (c > 127) ok("rule 4: sign " + (int) c, false);
        }
    }

    private static void methods(String code) {
        Matcher head = HEAD.matcher(code);
        int found = 0;
        while (head.find()) {
            long lines = body(code, head).chars().filter(c -> c == '\n').count();
            ok("rule 11: sixty lines, " + head.group().trim(), lines <= 60);
            ok("rule 11: seven parameters, " + head.group().trim(), head.group(3).split(",").length <= 7);
            found++;
        }
        ok("methods were found: " + found, found > 150);
    }

    private static String body(String code, Matcher head) {
        return code.substring(head.end(), code.indexOf("\n" + head.group(1) + "}", head.end()));
    }

    /** Calls go at most eight deep, none comes back to itself, and only a first image and a first row make objects. */
    private static void calls(String code) {
        Map<String, String> bodies = new HashMap<>();
        Matcher head = HEAD.matcher(code);
        while (head.find()) {
            int inside = code.lastIndexOf(" class ", head.start());
            String owner = code.substring(inside + 7, code.indexOf(' ', inside + 7));
            String name = owner + "." + head.group(2);
            ok("one method is called " + name, bodies.put(name, body(code, head)) == null);
            boolean makes = body(code, head).contains("new ");
            boolean may = name.equals("DrinkingStones.image") || name.equals("DrinkingStones.row");
            ok("rule 12: makes no objects, " + name, !makes || may || name.equals("Events.Events"));
        }
        int deepest = 0;
        for (String name : bodies.keySet()) {
            deepest = Math.max(deepest, depth(bodies, name, 1));
        }
        ok("rule 11: eight deep, not " + deepest, deepest > 4 && deepest <= 8);
    }

    /** How deep calls go from a method on; a name that several classes have stands for all of them. */
    private static int depth(Map<String, String> bodies, String name, int open) {
        if (open > 20) {
            return open;
        }
        int deepest = open;
        for (String other : bodies.keySet()) {
            String called = "\\b" + other.substring(other.indexOf('.') + 1) + "\\(";
            if (!other.equals(name) && Pattern.compile(called).matcher(bodies.get(name)).find()) {
                deepest = Math.max(deepest, depth(bodies, other, open + 1));
            }
        }
        return deepest;
    }

    /** The public members are those of the document's face, one by one. */
    private static void face() throws Exception {
        String document = Files.readString(DOCUMENT);
        String shown = document.substring(document.indexOf("```java") + 7, document.indexOf("```", document.indexOf("```java") + 7));
        Set<String> due = new HashSet<>();
        Matcher m = Pattern.compile("public (\\w+) (\\w+)\\(([^)]*)\\);").matcher(shown);
        while (m.find()) {
            due.add(m.group(1) + " " + m.group(2) + "(" + m.group(3).replaceAll(" \\w+(,|$)", "$1").replace(" ", "") + ")");
        }
        Set<String> there = new HashSet<>();
        for (Method method : DrinkingStones.class.getDeclaredMethods()) {
            int flags = method.getModifiers();
            if (method.isSynthetic()) continue;
            StringBuilder types = new StringBuilder();
            for (Class<?> type : method.getParameterTypes()) types.append(types.length() == 0 ? "" : ",").append(type.getName());
            if (Modifier.isPublic(flags)) there.add(method.getReturnType().getName() + " " + method.getName() + "(" + types + ")");
            else ok("rule 1: " + method.getName() + " is private", Modifier.isPrivate(flags));
        }
        CHECK.eq("the face has 75 methods", due.size(), 75);
        ok("rule 1: the face is the document's " + there, due.equals(there));
        Constructor<?>[] constructors = DrinkingStones.class.getDeclaredConstructors();
        ok("one public constructor", constructors.length == 1 && Modifier.isPublic(constructors[0].getModifiers()));
        for (Field field : DrinkingStones.class.getDeclaredFields()) {
            boolean known = field.getName().equals("NONE");
            ok("rule 1: field " + field.getName(), known ? Modifier.isPublic(field.getModifiers()) : Modifier.isPrivate(field.getModifiers()));
        }
        ok("public and final", (DrinkingStones.class.getModifiers() & (Modifier.PUBLIC | Modifier.FINAL)) == (Modifier.PUBLIC | Modifier.FINAL));
    }

    private static void nested() {
        Set<String> face = new HashSet<>();
        Set<String> others = new HashSet<>();
        for (Method method : DrinkingStones.class.getDeclaredMethods()) {
            (Modifier.isPublic(method.getModifiers()) ? face : others).add(method.getName());
        }
        Class<?>[] inside = DrinkingStones.class.getDeclaredClasses();
        ok("rule 11: twelve classes", inside.length + 1 <= 12);
        for (Class<?> one : inside) {
            ok("rule 2: static " + one, Modifier.isStatic(one.getModifiers()) && Modifier.isPrivate(one.getModifiers()));
            for (Method method : one.getDeclaredMethods()) others.add(method.getName());
            int fields = 0;
            for (Field field : one.getDeclaredFields()) {
                boolean constant = Modifier.isStatic(field.getModifiers());
                ok("rule 5: " + field, !constant || Modifier.isFinal(field.getModifiers()));
                fields += constant ? 0 : 1;
            }
            ok("rule 11: twenty fields in " + one, fields <= 20);
        }
        for (String name : others) ok("rule 1: no other method is called " + name, !face.contains(name));
    }
}
