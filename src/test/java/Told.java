/** Lines of a choir's text, and objects that were told such. */
final class Told {
    /** The choir of the tests under ../shared: its first wall falls in the third year. */
    static final String A = choir(4, 1, 5) + wall(20, 5) + wall(100, 10) + stone(10, 1, 0) + stone(20, 2, 0) + stone(30, 1, 1)
            + rain(6, 1, 0) + rain(8, 2, 1) + rain(5, 1, 2) + tap(1, 4, 1);
    /** Neither walls nor stones. */
    static final String BARE = choir(1, 0, 0);
    /** A wall that bears all. */
    static final String STRONG = wall(300, 60);
    /** As much as can be told. */
    static final String GREATEST = choir(12, 3, 10) + wall(300, 60).repeat(3) + stone(60, 4, 2).repeat(6)
            + rain(20, 5, 11).repeat(8) + tap(5, 60, 11).repeat(6);

    private Told() {
    }

    static String choir(int years, int law, int odds) {
        return "choir years " + years + " law " + law + " odds " + odds + ";";
    }

    static String wall(int bears, int gives) {
        return "wall bears " + bears + " gives " + gives + ";";
    }

    static String stone(int room, int wide, int on) {
        return "stone room " + room + " wide " + wide + " on " + on + ";";
    }

    static String rain(int n, int sort, int year) {
        return "rain " + n + " of " + sort + " at " + year + ";";
    }

    static String tap(int stone, int n, int year) {
        return "tap " + stone + " " + n + " at " + year + ";";
    }

    static DrinkingStones a() {
        return Check.of(A);
    }

    /** Two walls that bear all, then these lines. */
    static DrinkingStones with(int years, int law, String behind) {
        return Check.of(choir(years, law, 0) + STRONG + STRONG + behind);
    }

    /** As much as can be told, then this text in place of it. */
    static DrinkingStones after(String text) {
        DrinkingStones x = Check.of(GREATEST);
        x.all(12);
        Check.feed(x, text);
        x.choir();
        return x;
    }
}
