/** How the class is used; README.md shows this file, and what it prints. */
public final class Example {
    private static final String CHOIR = """
            choir years 4 law 1 odds 5;
            wall bears 20 gives 5;
            wall bears 100 gives 10;
            stone room 10 wide 1 on 0;
            stone room 20 wide 2 on 0;
            stone room 30 wide 1 on 1;
            rain 6 of 1 at 0;
            rain 8 of 2 at 1;
            rain 5 of 1 at 2;
            tap 1 4 at 1;
            """;

    public static void main(String[] args) {
        DrinkingStones x = new DrinkingStones();
        tell(x, CHOIR);
        print("lines of the choir", x.choir());
        print("measures in stone 2 in the last year", x.has(2, 4));
        for (int i = 0; i < x.layers(2, 4); i++) {
            print("  layer " + i + ", its sort", x.layer(2, 4, i, 0));
            print("  layer " + i + ", its measures", x.layer(2, 4, i, 1));
        }
        print("wall 0 falls in year", x.falls(0));
        print("the rain that brings it down", x.blame());
        print("wall 0 must bear", x.needs(0));
        print("stones to empty in year 2 so that all stand, as bits", x.saves(2));
        print("wall 0 stands by chance, above", x.chance(0, 0));
        print("wall 0 stands by chance, below", x.chance(0, 1));

        // what was seen: stone 0 had 6 measures in year 1
        x.row(0, 0, 3);
        x.write(0, 0, 0);
        x.write(0, 1, 1);
        x.write(0, 2, 6);
        print("rooms that stone 0 can have had", x.rooms(0, 0));
        print("the least of them", x.least(0, 0));

        // acts: a rain and a tap more, both taken back
        x.image(0);
        print("all measures with a rain more", x.rains(2, 3, 3));
        print("heard with a tap more", x.taps(2, 5, 3));
        x.back(0);
        print("all measures as told", x.all(4));
        print("there is no stone 3", x.has(3, 0));

        tell(x, "choir years 13 law 0 odds 0;");
        print("a text at fault", x.choir());
        print("its fault", x.fault(0));
        print("its place", x.fault(1));
    }

    private static void print(String what, long answer) {
        System.out.println(what + ": " + answer);
    }

    /** Puts a text on the tape: twenty bytes a call, four in each number, the highest first. */
    private static void tell(DrinkingStones x, String text) {
        x.end(0);
        int[] five = new int[5];
        for (int i = 0; i < (text.length() + 19) / 20 * 20; i++) {
            int sign = i < text.length() ? text.charAt(i) : ' ';
            five[i % 20 / 4] = five[i % 20 / 4] << 8 | sign;
            if (i % 20 == 19) {
                x.feed(five[0], five[1], five[2], five[3], five[4]);
            }
        }
        x.end(text.length());
    }
}
