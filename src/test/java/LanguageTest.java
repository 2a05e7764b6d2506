import java.lang.reflect.Constructor;
import java.lang.reflect.Field;
import java.lang.reflect.Method;
import java.lang.reflect.Modifier;
import java.nio.file.Files;
import java.nio.file.Path;
import java.util.HashSet;
import java.util.Set;
import java.util.regex.Matcher;
import java.util.regex.Pattern;

/** The rules of LANGUAGE.md that can be told from the file and the class alone. */
public final class LanguageTest {
    private static final Check CHECK = new Check();
    private static final Path SOURCE = Path.of("src/main/java/DrinkingStones.java");
    private static final Path DOCUMENT = Path.of("../shared/DOC.md");

    public static void main(String[] args) throws Exception {
        String code = stripped(Files.readString(SOURCE));
        forbidden(code);
        methods(code);
        face();
        nested();
        CHECK.end("LanguageTest");
    }

    private static void ok(String what, boolean good) {
        CHECK.eq(what, good ? 1 : 0, 1);
    }

    private static String stripped(String source) {
        return source.replaceAll("(?s)/\\*.*?\\*/", "").replaceAll("//[^\n]*", "").replaceAll("\"[^\"\n]*\"", "\"\"");
    }

    private static void forbidden(String code) {
        String[] words = {"throw", "throws", "try", "catch", "synchronized", "assert", "import", "package", "native", "volatile",
            "transient", "protected", "hashCode", "toString", "values", "System.out", "var"};
        for (String word : words) {
            ok("rule 6, 4: " + word, !Pattern.compile("\\b" + Pattern.quote(word) + "\\b").matcher(code).find());
        }
        ok("no lambda, no method reference", !code.contains("->") && !code.contains("::"));
        ok("no Exact", !code.contains("Exact"));
        ok("no joining by +", !code.contains("\"\" +") && !code.contains("+ \"\""));
        Matcher library = Pattern.compile("\\b(System|Math|Integer|Long|Arrays)\\.(\\w+)").matcher(code);
        Set<String> allowed = Set.of("System.arraycopy", "Math.max", "Math.min", "Math.abs", "Integer.bitCount");
        while (library.find()) {
            ok("rule 4: " + library.group(), allowed.contains(library.group()));
        }
        for (char c : code.toCharArray()) {
            if (c > 127) ok("rule 4: sign " + (int) c, false);
        }
    }

    private static void methods(String code) {
        Matcher head = Pattern.compile("(?m)^( +)(?:public |private |static |final )*[\\w\\[\\]]+ ?\\w*\\(([^)]*)\\) \\{$").matcher(code);
        int found = 0;
        while (head.find()) {
            String rest = code.substring(head.end());
            int end = rest.indexOf("\n" + head.group(1) + "}");
            long lines = rest.substring(0, end).chars().filter(c -> c == '\n').count();
            ok("rule 11: sixty lines, " + head.group().trim(), lines <= 60);
            ok("rule 11: seven parameters, " + head.group().trim(), head.group(2).split(",").length <= 7);
            found++;
        }
        ok("methods were found", found > 120);
    }

    /** The public members are those of the document's face, one by one. */
    private static void face() throws Exception {
        String document = Files.readString(DOCUMENT);
        String shown = document.substring(document.indexOf("```java") + 7, document.indexOf("```", document.indexOf("```java") + 7));
        Set<String> due = new HashSet<>();
        Matcher m = Pattern.compile("public (\\w+) (\\w+)\\(([^)]*)\\);").matcher(shown);
        while (m.find()) {
            due.add(m.group(1) + " " + m.group(2) + "(" + m.group(3).replaceAll(" \\w+(,|$)", "$1").replace(" ", "") + ")");
        }
        Set<String> there = new HashSet<>();
        for (Method method : DrinkingStones.class.getDeclaredMethods()) {
            int flags = method.getModifiers();
            if (method.isSynthetic()) continue;
            StringBuilder types = new StringBuilder();
            for (Class<?> type : method.getParameterTypes()) types.append(types.length() == 0 ? "" : ",").append(type.getName());
            if (Modifier.isPublic(flags)) there.add(method.getReturnType().getName() + " " + method.getName() + "(" + types + ")");
            else ok("rule 1: " + method.getName() + " is private", Modifier.isPrivate(flags));
        }
        CHECK.eq("the face has 75 methods", due.size(), 75);
        ok("rule 1: the face is the document's " + there, due.equals(there));
        Constructor<?>[] constructors = DrinkingStones.class.getDeclaredConstructors();
        ok("one public constructor", constructors.length == 1 && Modifier.isPublic(constructors[0].getModifiers()));
        for (Field field : DrinkingStones.class.getDeclaredFields()) {
            boolean known = field.getName().equals("NONE");
            ok("rule 1: field " + field.getName(), known ? Modifier.isPublic(field.getModifiers()) : Modifier.isPrivate(field.getModifiers()));
        }
        ok("public and final", (DrinkingStones.class.getModifiers() & (Modifier.PUBLIC | Modifier.FINAL)) == (Modifier.PUBLIC | Modifier.FINAL));
    }

    private static void nested() {
        Set<String> face = new HashSet<>();
        Set<String> others = new HashSet<>();
        for (Method method : DrinkingStones.class.getDeclaredMethods()) {
            (Modifier.isPublic(method.getModifiers()) ? face : others).add(method.getName());
        }
        Class<?>[] inside = DrinkingStones.class.getDeclaredClasses();
        ok("rule 11: twelve classes", inside.length + 1 <= 12);
        for (Class<?> one : inside) {
            ok("rule 2: static " + one, Modifier.isStatic(one.getModifiers()) && Modifier.isPrivate(one.getModifiers()));
            for (Method method : one.getDeclaredMethods()) others.add(method.getName());
            int fields = 0;
            for (Field field : one.getDeclaredFields()) {
                boolean constant = Modifier.isStatic(field.getModifiers());
                ok("rule 5: " + field, !constant || Modifier.isFinal(field.getModifiers()));
                fields += constant ? 0 : 1;
            }
            ok("rule 11: twenty fields in " + one, fields <= 20);
        }
        for (String name : others) ok("rule 1: no other method is called " + name, !face.contains(name));
    }
}
