import java.nio.charset.StandardCharsets;
import java.util.ArrayList;
import java.util.List;
import java.util.Random;
import java.util.regex.Matcher;
import java.util.regex.Pattern;

/** Texts good and bad against a plain reader by patterns: promises 2 to 5. */
public final class TextTest {
    private static final Check CHECK = new Check();
    private static final Pattern TOKEN = Pattern.compile("[a-z]+|[0-9]+|;|[^ \\n]", Pattern.DOTALL);
    private static final String GOOD = "choir years 4 law 1 odds 5;wall bears 20 gives 5;stone room 10 wide 1 on 0;"
            + "stone room 20 wide 2 on 0;rain 6 of 1 at 0;tap 1 4 at 11;wall bears 300 gives 60;stone room 60 wide 4 on 1;";

    public static void main(String[] args) {
        byHand();
        for (int seed = 0; seed < 30000; seed++) {
            check(mutated(new Random(seed)));
        }
        CHECK.end("TextTest");
    }

    private static void byHand() {
        String[] texts = {"", " ", "\n \n", ";", "choir", "choir ", "choir;", "choir years", "choir years ;", "choir years 0",
            "choir years 12 law 0 odds 0;", "choir years 12 law 0 odds 0 ", "choir years 1 law 3 odds 10;;",
            "choiryears 1", "choir years1law2odds3;", "choir years 0000012 law 00 odds 010;", "choir years 99999999999999999999",
            "choir years 4294967297", "Choir", "choir\tyears", "\u00e9", "choir years 1 law 1 odds 1;wall bears 0 gives 1;",
            "wall bears 1 gives 1;", "rain", "5", "choir years 1 law 1 odds 1;choir years 1 law 1 odds 1;",
            "choir years 1 law 1 odds 1;wall bears 1 gives 61;", "choir years 1 law 1 odds 1;wall bears 1 gives 1;stone room 1 wide 1 on 1;",
            "choir years 1 law 1 odds 1;wall bears 1 gives 1;stone room 0", "choir years 1 law 1 odds 1;rain 0", "choir years 1 law 1 odds 1;rain 1 of 0",
            "choir years 1 law 1 odds 1;wall bears 1 gives 1;stone room 1 wide 0", "choir years 1 law 1 odds 1;rain 20 of 5 at 11;",
            "choir years 1 law 1 odds 1;rain -1 of 5 at 11;", "choir years 1 law 1 odds 1;tap 0 1 at 1;",
            "choir years 1 law 1 odds 1;wall bears 1 gives 1;stone room 1 wide 1 on 0;tap 0 0", "choir years 1 law 1 odds 1;rainy 1 of 1 at 1;"};
        for (String text : texts) {
            check(text);
        }
        // each number at, just below and just above its bounds
        String head = "choir years 1 law 1 odds 1;wall bears 1 gives 1;stone room 1 wide 1 on 0;rain 1 of 1 at 1;tap 0 1 at 1;";
        Matcher numbers = Pattern.compile("[0-9]+").matcher(head);
        int[] edges = {0, 1, 2, 3, 4, 5, 6, 10, 11, 12, 13, 20, 21, 60, 61, 300, 301};
        while (numbers.find()) {
            for (int edge : edges) {
                check(head.substring(0, numbers.start()) + edge + head.substring(numbers.end()));
            }
        }
    }

    private static String mutated(Random random) {
        StringBuilder b = new StringBuilder(random.nextInt(3) == 0 ? many(random) : GOOD);
        String signs = "; \n0123456789acehilnorstuwyABz-#\t\u00ff\u0000";
        int changes = random.nextInt(4);
        for (int i = 0; i < changes && b.length() > 0; i++) {
            int at = random.nextInt(b.length());
            switch (random.nextInt(5)) {
                case 0 -> b.deleteCharAt(at);
                case 1 -> b.insert(at, signs.charAt(random.nextInt(signs.length())));
                case 2 -> b.setCharAt(at, signs.charAt(random.nextInt(signs.length())));
                case 3 -> b.setLength(Math.max(1, at));
                default -> {
                    Matcher m = TOKEN.matcher(b.toString());
                    List<int[]> spans = new ArrayList<>();
                    while (m.find()) spans.add(new int[] {m.start(), m.end()});
                    if (!spans.isEmpty()) {
                        int[] span = spans.get(random.nextInt(spans.size()));
                        b.replace(span[0], span[1], String.valueOf(random.nextInt(350)));
                    }
                }
            }
        }
        return b.toString();
    }

    private static String many(Random random) {
        String[] lines = {"wall bears 5 gives 9;", "stone room 4 wide 1 on 0;", "rain 3 of 1 at 0;", "tap 0 1 at 1;"};
        StringBuilder b = new StringBuilder("choir years 2 law 3 odds 10;");
        for (int i = 0; i < 20; i++) b.append(lines[random.nextInt(i < 2 ? i + 1 : 4)]);
        return b.toString();
    }

    private static void check(String text) {
        byte[] bytes = text.getBytes(StandardCharsets.ISO_8859_1);
        DrinkingStones x = Check.of("choir years 7 law 0 odds 0;");
        x.rains(1, 1, 1);
        CHECK.eq("fed", Check.feed(x, bytes), bytes.length);
        int[] due = read(text);
        CHECK.eq("choir of " + text, x.choir(), due[0]);
        CHECK.eq("fault of " + text, x.fault(0), due[1]);
        CHECK.eq("place of " + text, x.fault(1), due[2]);
        CHECK.eq("tape of " + text, x.count(9), 0);
        CHECK.eq("lines of " + text, x.count(8), due[0] == -4 ? 1 : due[0]);
        CHECK.eq("acts of " + text, x.count(7), due[0] == -4 ? 1 : 0);
        if (due[0] == -4) {
            CHECK.eq("years of " + text, x.count(0), 7);
        }
    }

    /** Answer, fault, place. */
    private static int[] read(String text) {
        List<String> tokens = new ArrayList<>();
        List<Integer> places = new ArrayList<>();
        Matcher m = TOKEN.matcher(text);
        while (m.find()) {
            tokens.add(m.group());
            places.add(m.start());
        }
        tokens.add("");
        places.add(text.length());
        int walls = 0;
        int stones = 0;
        int rains = 0;
        int taps = 0;
        int lines = 0;
        int at = 0;
        while (at < tokens.size() - 1) {
            String word = tokens.get(at);
            String form;
            boolean many = false;
            if (lines == 0 != word.equals("choir")) return new int[] {-4, 1, places.get(at)};
            switch (word) {
                case "choir" -> form = "years 1-12 law 0-3 odds 0-10 ;";
                case "wall" -> {
                    form = "bears 0-300 gives 1-60 ;";
                    many = ++walls > 3;
                }
                case "stone" -> {
                    form = "room 1-60 wide 1-4 on 0-" + (walls - 1) + " ;";
                    many = ++stones > 6;
                }
                case "rain" -> {
                    form = "1-20 of 1-5 at 0-11 ;";
                    many = ++rains > 8;
                }
                case "tap" -> {
                    form = "0-" + (stones - 1) + " 1-60 at 0-11 ;";
                    many = ++taps > 6;
                }
                default -> {
                    return new int[] {-4, 1, places.get(at)};
                }
            }
            if (many) return new int[] {-4, 3, places.get(at)};
            at++;
            for (String part : form.split(" ")) {
                int fault = judge(part, tokens.get(at));
                if (fault != 0) return new int[] {-4, fault, places.get(at)};
                at++;
            }
            lines++;
        }
        return new int[] {lines, 0, -1};
    }

    private static int judge(String part, String token) {
        int dash = part.indexOf('-');
        if (dash < 0) return part.equals(token) ? 0 : 1;
        if (!token.matches("[0-9]+")) return 1;
        java.math.BigInteger n = new java.math.BigInteger(token);
        int low = Integer.parseInt(part.substring(0, dash));
        int high = Integer.parseInt(part.substring(dash + 1));
        boolean in = n.compareTo(java.math.BigInteger.valueOf(low)) >= 0 && n.compareTo(java.math.BigInteger.valueOf(high)) <= 0;
        return in ? 0 : 2;
    }
}
