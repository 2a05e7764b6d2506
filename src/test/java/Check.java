/** What the tests share: feeding texts, comparing answers, ending with the right code. */
final class Check {
    private int asked = 0;
    private int wrong = 0;

    void eq(String what, long got, long want) {
        asked++;
        if (got != want) {
            wrong++;
            if (wrong <= 60) {
                System.out.println(what + " answered " + got + ", due is " + want);
            }
        }
    }

    void end(String name) {
        System.out.println(name + ": " + asked + " answers, " + wrong + " wrong");
        if (wrong != 0 || asked == 0) {
            System.exit(1);
        }
    }

    /** Puts a text behind the tape; NONE if there is no room for it (and its padding). */
    static int feed(DrinkingStones x, String text) {
        return feed(x, text.getBytes(java.nio.charset.StandardCharsets.ISO_8859_1));
    }

    static int feed(DrinkingStones x, byte[] bytes) {
        int from = x.count(9);
        for (int i = 0; i < bytes.length; i += 20) {
            int[] fives = new int[5];
            for (int k = 0; k < 20; k++) {
                int b = i + k < bytes.length ? bytes[i + k] & 255 : 32;
                fives[k / 4] = fives[k / 4] << 8 | b;
            }
            if (x.feed(fives[0], fives[1], fives[2], fives[3], fives[4]) == DrinkingStones.NONE) {
                return DrinkingStones.NONE;
            }
        }
        return x.end(from + bytes.length);
    }

    /** A new object with a choir of this text. */
    static DrinkingStones of(String text) {
        DrinkingStones x = new DrinkingStones();
        feed(x, text);
        if (x.choir() < 0) {
            throw new IllegalStateException("fault " + x.fault(0) + " at " + x.fault(1) + " in " + text);
        }
        return x;
    }

    /** Writes a new row of four-byte numbers into a slot. */
    static void row(DrinkingStones x, int slot, int... numbers) {
        x.row(slot, 2, numbers.length);
        for (int i = 0; i < numbers.length; i++) {
            x.write(slot, i, numbers[i]);
        }
    }
}
