import java.util.function.IntToLongFunction;
import java.util.function.ToLongFunction;

/** Promises 43 to 76, sentence by sentence: each with its own tests at its bounds. */
public final class WhatIfBoundsTest {
    private static Says doc;
    private static final int MAX = Integer.MAX_VALUE;
    private static final int MIN = Integer.MIN_VALUE;
    private static final String STRONG = Told.STRONG;
    private static final int LAST_SEED = 2000000000;

    public static void main(String[] args) throws Exception {
        doc = new Says();
        p43();
        p44();
        p45();
        p46();
        p47();
        p48();
        p49();
        p50();
        p51to52();
        p53();
        p54();
        p55();
        p56();
        p57();
        p58();
        p59();
        p60();
        p61();
        p62();
        p63();
        p64();
        p65();
        p66();
        p67();
        p68();
        p69();
        p70();
        p71();
        p72();
        p73();
        p74();
        p75();
        p76();
        doc.end("WhatIfBoundsTest", 34);
    }

    private static void promise(int number) {
        doc.section("Promise " + number + ":");
    }

    private static void says(String words) {
        doc.says(words);
    }

    private static void eq(String call, long got, long want) {
        doc.eq(call, got, want);
    }

    private static void beyond(String call, int count, IntToLongFunction asked) {
        doc.beyond(call, count, -2, asked);
    }

    private static void noChoir(String call, ToLongFunction<DrinkingStones> asked) {
        eq(call + ", no choir", asked.applyAsLong(new DrinkingStones()), -2);
        eq(call + ", none any more", asked.applyAsLong(Told.after("")), -2);
    }

    private interface IntOf {
        long ask(DrinkingStones x, int which);
    }

    private static void noSuch(String call, int count, long answer, IntOf asked) {
        DrinkingStones x = Told.a();
        doc.beyond(call, count, answer, n -> asked.ask(x, n));
        eq(call + ", none in it", asked.ask(Check.of(Told.BARE), count == 4 ? 1 : 0), answer);
        eq(call + ", no choir", asked.ask(new DrinkingStones(), 0), answer);
        eq(call + ", none any more", asked.ask(Told.after(""), 0), answer);
    }

    // ---- save ----

    /** Six stones of which each must let out its one measure in the second year. */
    private static final String ALL_SIX = Told.choir(3, 0, 0) + Told.wall(0, 3) + Told.stone(1, 1, 0).repeat(6) + Told.rain(1, 1, 0);
    /** One stone, the third, or the first two must let out. */
    private static final String ONE_FOR_TWO = Told.choir(2, 0, 0) + Told.wall(9, 1) + Told.stone(3, 1, 0).repeat(2) + Told.stone(6, 1, 0)
            + Told.rain(3, 1, 0) + Told.rain(2, 1, 1);

    private static void p43() {
        promise(43);
        says("SAVE (IV): the fewest STONES that must let out all in a YEAR (ahead of the last) so that all WALLS stand in the last YEAR.");
        eq("two", Told.a().save(2), 2);
        eq("all six", Check.of(ALL_SIX).save(1), 6);
        eq("one in place of two", Check.of(ONE_FOR_TWO).save(1), 1);
        eq("none need, in the first", Told.with(2, 0, Told.stone(9, 1, 0) + Told.rain(9, 1, 0)).save(0), 0);
        eq("none need, in the last but one", Told.with(12, 0, Told.stone(9, 1, 0) + Told.rain(9, 1, 0)).save(11), 0);
        eq("no walls, no stones", Check.of(Told.BARE).save(0), 0);
        says("NONE: by none;");
        eq("too early", Check.of(ALL_SIX).save(0), -1);
        eq("too late", Check.of(ALL_SIX).save(2), -1);
        eq("fallen", Told.a().save(3), -1);
        says("-2: there is none such.");
        noSuch("save", 4, -2, DrinkingStones::save);
        eq("the last", Check.of(ALL_SIX).save(3), -2);
    }

    private static void p44() {
        promise(44);
        says("The least set of so few, as bits.");
        eq("two", Told.a().saves(2), 3);
        eq("all six", Check.of(ALL_SIX).saves(1), 63);
        eq("4, not 3", Check.of(ONE_FOR_TWO).saves(1), 4);
        eq("none", Check.of(Told.BARE).saves(0), 0);
        String either = Told.stone(9, 1, 0).repeat(2) + Told.stone(9, 1, 1).repeat(2) + Told.rain(4, 1, 0) + Told.rain(2, 1, 1);
        eq("the first of each wall", Check.of(Told.choir(2, 0, 0) + Told.wall(9, 1).repeat(2) + either).saves(1), 5);
        eq("of the second wall", Check.of(Told.choir(2, 0, 0) + Told.wall(300, 1) + Told.wall(9, 1) + either).saves(1), 4);
        says("NONE, -2 likewise.");
        eq("too early", Check.of(ALL_SIX).saves(0), -1);
        eq("fallen", Told.a().saves(3), -1);
        noSuch("saves", 4, -2, DrinkingStones::saves);
        eq("the last", Check.of(ALL_SIX).saves(3), -2);
    }

    private static void p45() {
        promise(45);
        says("The latest YEAR (ahead of the last) in which some set (the empty one, too) does it.");
        eq("the third", Told.a().latest(), 2);
        eq("all six", Check.of(ALL_SIX).latest(), 1);
        eq("the empty one", Told.with(12, 0, Told.stone(9, 1, 0) + Told.rain(9, 1, 0)).latest(), 11);
        eq("of one year", Check.of(Told.BARE).latest(), 0);
        says("NONE: in none;");
        eq("at once", Check.of(Told.choir(12, 0, 0) + Told.wall(0, 1) + Told.stone(9, 1, 0) + Told.rain(1, 1, 0)).latest(), -1);
        says("-2: there is no CHOIR.");
        noChoir("latest", DrinkingStones::latest);
    }

    // ---- without one, or with another ----

    private static void p46() {
        promise(46);
        says("The RAIN told (its number) without which most WALLS stand in the last YEAR, if more than now, the first of several.");
        String two = Told.choir(1, 0, 0) + Told.wall(5, 1) + Told.wall(8, 1) + Told.stone(60, 1, 0) + Told.stone(60, 1, 1);
        eq("most: one without the first, two without the second", Check.of(two + Told.rain(4, 1, 0) + Told.rain(6, 1, 0)).blame(), 1);
        eq("the first of several", Check.of(two + Told.rain(3, 1, 11) + Told.rain(5, 1, 0).repeat(2)).blame(), 1);
        eq("the first", Check.of(two + Told.rain(9, 1, 0)).blame(), 0);
        eq("the eighth", Check.of(two + Told.rain(1, 1, 11).repeat(7) + Told.rain(9, 1, 0)).blame(), 7);
        says("NONE: none;");
        eq("all stand", Told.with(1, 0, Told.stone(9, 1, 0) + Told.rain(9, 1, 0)).blame(), -1);
        eq("by none alone", Check.of(two + Told.rain(20, 1, 0).repeat(2)).blame(), -1);
        eq("no rains", Check.of(two).blame(), -1);
        // without the first rain the first wall stands until what comes on by law 2 brings down all
        DrinkingStones fewer = Check.of(Told.choir(2, 2, 0) + Told.wall(4, 1) + Told.wall(30, 1) + Told.wall(30, 1) + Told.stone(5, 4, 0) + Told.stone(60, 1, 1)
                + Told.stone(60, 1, 2) + Told.rain(2, 1, 0) + Told.rain(20, 1, 1));
        eq("two stand", fewer.stands(2), 6);
        eq("fewer without", fewer.blame(), -1);
        DrinkingStones act = Check.of(two);
        act.rains(9, 1, 0);
        eq("one of an act", act.stands(1) + 10 * act.blame(), -10);
        says("-2: there is no CHOIR.");
        noChoir("blame", DrinkingStones::blame);
    }

    private static void p47() {
        promise(47);
        says("The TAP told without which fewest stand then, if fewer than now, the first of several.");
        String two = Told.choir(1, 0, 0) + Told.wall(5, 1) + Told.wall(8, 1) + Told.stone(60, 1, 0) + Told.stone(60, 1, 1) + Told.stone(60, 1, 0);
        // loads of 10 and 5 on walls that bear 5 and 8: the first stands by 5 let out
        String rain = Told.rain(5, 1, 0);
        eq("the first of two", Check.of(two + rain + Told.tap(0, 3, 0) + Told.tap(2, 2, 0)).needed(), 0);
        eq("not one of another wall", Check.of(two + rain + Told.tap(1, 5, 0) + Told.tap(2, 5, 0)).needed(), 1);
        eq("the sixth", Check.of(two + rain + Told.tap(0, 1, 11).repeat(5) + Told.tap(0, 5, 0)).needed(), 5);
        fewest();
        says("NONE, -2 likewise.");
        eq("none is needed", Told.a().needed(), -1);
        eq("each by itself is not", Check.of(two + rain + Told.tap(0, 5, 0) + Told.tap(2, 5, 0)).needed(), -1);
        eq("no taps", Check.of(two + rain).needed(), -1);
        // by the tap the first wall stands until what comes on by law 2 brings down all
        DrinkingStones more = Check.of(Told.choir(2, 2, 0) + Told.wall(4, 1) + Told.wall(30, 1) + Told.wall(30, 1) + Told.stone(5, 4, 0) + Told.stone(60, 1, 1)
                + Told.stone(60, 1, 2) + Told.rain(2, 1, 0) + Told.rain(20, 1, 1) + Told.tap(0, 1, 0));
        eq("none stands", more.stands(2), 0);
        eq("more without", more.needed(), -1);
        DrinkingStones act = Check.of(two + rain);
        act.taps(0, 5, 0);
        eq("one of an act", act.stands(1) + 10 * act.needed(), 3 - 10);
        noChoir("needed", DrinkingStones::needed);
    }

    /** Taps without which one wall falls, and one without which two do. */
    private static void fewest() {
        DrinkingStones x = Check.of(Told.choir(2, 2, 0) + Told.wall(9, 1) + Told.wall(4, 1) + Told.stone(12, 1, 0) + Told.stone(60, 1, 1)
                + Told.rain(6, 1, 0) + Told.rain(4, 1, 1) + Told.tap(1, 6, 0) + Told.tap(0, 1, 1));
        // year 0: 6 and 0. year 1: 10 and 4, the first let out to 9
        eq("both stand", x.stands(2), 3);
        eq("the first of one each", x.needed(), 0);
        DrinkingStones z = Check.of(Told.choir(2, 2, 0) + Told.wall(8, 1) + Told.wall(4, 1) + Told.wall(4, 1) + Told.stone(9, 1, 0) + Told.stone(60, 1, 1)
                + Told.stone(60, 1, 2) + Told.rain(6, 1, 0) + Told.rain(4, 1, 1) + Told.tap(2, 6, 0) + Told.tap(1, 6, 0) + Told.tap(0, 6, 0));
        // without the third tap 9 lie on a wall that bears 8 and 5 on one that bears 4: two fall, by the others one
        eq("all stand", z.stands(2), 7);
        eq("two by the third", z.needed(), 2);
    }

    private static void p48() {
        promise(48);
        says("The least that a WALL must bear (0 .. 300) so that it stands in the last YEAR.");
        eq("as told it falls", Told.a().needs(0), 26);
        eq("less than told", Told.a().needs(1), 5);
        eq("0: no load", Check.of(Told.choir(1, 0, 0) + Told.wall(9, 1)).needs(0), 0);
        eq("0: it gives more", Check.of(Told.choir(1, 0, 0) + Told.wall(9, 2) + Told.stone(9, 1, 0) + Told.rain(4, 1, 0)).needs(0), 0);
        eq("1: it gives no more", Check.of(Told.choir(1, 0, 0) + Told.wall(9, 2) + Told.stone(9, 1, 0) + Told.rain(5, 1, 0)).needs(0), 1);
        String five = Told.choir(1, 0, 0) + "wall bears 0 gives G;" + Told.stone(60, 4, 0).repeat(5);
        eq("300", Check.of(five.replace("G", "1") + Told.rain(20, 1, 0)).needs(0), 300);
        eq("300 with 304 on it", Check.of(five.replace("G", "2") + Told.stone(4, 4, 0) + Told.rain(20, 1, 0)).needs(0), 300);
        says("NONE: by none;");
        eq("301 on it", Check.of(five.replace("G", "1") + Told.stone(1, 4, 0) + Told.rain(20, 1, 0)).needs(0), -1);
        eq("305 on it", Check.of(five.replace("G", "2") + Told.stone(5, 4, 0) + Told.rain(20, 1, 0)).needs(0), -1);
        says("-2: there is none such.");
        noSuch("needs", 2, -2, DrinkingStones::needs);
        DrinkingStones x = Told.a();
        x.needs(0);
        eq("nothing is otherwise", x.wall(0, 0), 20);
    }

    private static void p49() {
        promise(49);
        says("The STONE that, had it no room (it were bunged, VII), would make LOADS of all WALLS in the last YEAR least, together, the first of several, if less than now.");
        eq("the third", Told.a().heavy(), 2);
        eq("the first", Told.with(1, 0, Told.stone(9, 1, 0) + Told.stone(4, 1, 0) + Told.rain(5, 1, 0)).heavy(), 0);
        eq("the first of several", Told.with(1, 0, Told.stone(4, 1, 0) + Told.stone(9, 1, 0).repeat(2) + Told.rain(5, 1, 0)).heavy(), 1);
        eq("the sixth", Told.with(1, 0, Told.stone(4, 1, 0).repeat(5) + Told.stone(9, 1, 1) + Told.rain(5, 1, 0)).heavy(), 5);
        // by law 2 what the first would drink goes on to the second, which has room for it
        eq("what goes on", Told.with(1, 2, Told.stone(9, 1, 0) + Told.stone(60, 1, 1) + Told.rain(5, 1, 0)).heavy(), 1);
        says("NONE: none;");
        eq("no water", Told.with(1, 0, Told.stone(9, 1, 0)).heavy(), -1);
        eq("no stones", Check.of(Told.BARE).heavy(), -1);
        // its wall falls with it: without it there is more
        eq("more without", Check.of(Told.choir(1, 0, 0) + Told.wall(9, 1) + Told.stone(9, 1, 0).repeat(2) + Told.rain(5, 1, 0)).heavy(), -1);
        says("-2: there is no CHOIR.");
        noChoir("heavy", DrinkingStones::heavy);
    }

    // ---- by what was seen ----

    private interface Seen {
        long ask(DrinkingStones x, int slot, int stone);
    }

    private static void refusedSlotAndStone(String call, Seen asked) {
        DrinkingStones x = Told.a();
        for (int slot = 0; slot <= 3; slot++) {
            x.row(slot, 0, 3);
        }
        beyond(call + ", slot", 4, slot -> asked.ask(x, slot, 0));
        beyond(call + ", stone", 3, stone -> asked.ask(x, 0, stone));
        eq(call + ", no stone, nothing in it", asked.ask(Told.a(), 0, 3), -2);
        eq(call + ", no slot, no stone", asked.ask(Told.a(), 4, 3), -2);
        eq(call + ", no choir", asked.ask(new DrinkingStones(), 0, 0), -2);
        eq(call + ", no stones", asked.ask(Check.of(Told.BARE), 0, 0), -2);
        eq(call + ", a row of a choir that was", asked.ask(rowThenNoChoir(), 0, 0), -2);
    }

    private static DrinkingStones rowThenNoChoir() {
        DrinkingStones x = Told.a();
        x.row(0, 0, 3);
        x.choir();
        return x;
    }

    private static void refusedNumbers(String call, IntOf asked) {
        DrinkingStones x = Told.a();
        int[][] bad = {{3, 0, 0}, {-1, 0, 0}, {MAX, 0, 0}, {0, 5, 0}, {0, -1, 0}, {0, MIN, 0}, {0, 0, 61}, {0, 0, -1}, {0, 0, MAX},
            {0, 0, 0, 0, 9, 0}, {0, 0, 0, 0, 0, 61}, {0, 0, 0, 6, 0, 0}};
        for (int[] row : bad) {
            Check.row(x, 1, row);
            eq(call + ", a number is none such " + java.util.Arrays.toString(row), asked.ask(x, 1), -2);
        }
        for (int n : new int[] {1, 2, 4, 5, 58, 59}) {
            x.row(1, 0, n);
            eq(call + ", " + n + " numbers", asked.ask(x, 1), -2);
        }
        x.row(1, 3, 3);
        for (long round : new long[] {1L << 32, Long.MIN_VALUE, -(1L << 32)}) {
            for (int i = 0; i < 3; i++) {
                x.write(1, i, round);
                eq(call + ", number " + i + " wraps around", asked.ask(x, 1), -2);
                x.write(1, i, 0);
            }
        }
        // of another choir the same numbers may be none such
        Check.row(x, 1, 2, 4, 19);
        Check.feed(x, Told.choir(3, 0, 0) + STRONG + Told.stone(1, 1, 0).repeat(3));
        x.choir();
        eq(call + ", no such year of another choir", asked.ask(x, 1), -2);
    }

    private static void nothingIn(String call, IntOf asked) {
        DrinkingStones x = Told.a();
        for (int slot = 0; slot <= 3; slot++) {
            eq(call + ", slot " + slot, asked.ask(x, slot), -6);
        }
        x.row(0, 0, 3);
        eq(call + ", another slot", asked.ask(x, 1), -6);
    }

    private static void p50() {
        promise(50);
        says("SEEN (V): how many rooms a STONE can have had by a SLOT's row.");
        DrinkingStones x = Told.a();
        Check.row(x, 0, 0, 1, 6);
        eq("6 and more", x.rooms(0, 0), 55);
        Check.row(x, 0, 0, 1, 6, 0, 2, 10);
        eq("one", x.rooms(0, 0), 1);
        Check.row(x, 0, 0, 0, 0);
        eq("all", x.rooms(0, 0), 60);
        Check.row(x, 0, 0, 0, 60);
        eq("none: measures of 60 are such", x.rooms(0, 0), 0);
        Check.row(x, 0, 2, 4, 19);
        eq("the last stone in the last year", x.rooms(0, 2), 42);
        x.row(0, 0, 60);
        eq("twenty times", x.rooms(0, 0), 60);
        x.row(3, 0, 0);
        eq("nothing seen", x.rooms(3, 0), 60);
        eq("room as told yet", x.stone(0, 0), 10);
        says("-2: there is no such SLOT, STONE, a number is none such (MEASURES 0 .. 60; asked last), not three each;");
        refusedSlotAndStone("rooms", DrinkingStones::rooms);
        refusedNumbers("rooms", (o, slot) -> o.rooms(slot, 0));
        says("-6: it has nothing.");
        nothingIn("rooms", (o, slot) -> o.rooms(slot, 0));
    }

    private static void p51to52() {
        promise(51);
        says("The least of these.");
        DrinkingStones x = Told.a();
        Check.row(x, 0, 0, 1, 6);
        eq("6", x.least(0, 0), 6);
        Check.row(x, 1, 0, 0, 0);
        eq("1", x.least(1, 0), 1);
        says("NONE: there is none;");
        Check.row(x, 2, 0, 0, 1);
        eq("none", x.least(2, 0), -1);
        says("-2, -6 likewise.");
        refusedSlotAndStone("least", DrinkingStones::least);
        refusedNumbers("least", (o, slot) -> o.least(slot, 0));
        nothingIn("least", (o, slot) -> o.least(slot, 0));

        promise(52);
        says("The greatest.");
        Check.row(x, 3, 0, 1, 5);
        eq("5", x.greatest(3, 0), 5);
        eq("60", x.greatest(0, 0), 60);
        says("NONE, -2, -6 likewise.");
        eq("none", x.greatest(2, 0), -1);
        refusedSlotAndStone("greatest", DrinkingStones::greatest);
        refusedNumbers("greatest", (o, slot) -> o.greatest(slot, 0));
        nothingIn("greatest", (o, slot) -> o.greatest(slot, 0));
    }

    private static void p53() {
        promise(53);
        says("The YEAR of which to know the STONE's MEASURES leaves fewest of these at worst, if fewer than now, the first of several.");
        DrinkingStones x = Told.a();
        Check.row(x, 0, 0, 1, 6);
        eq("the second", x.ask(0, 0), 2);
        // 3 and 7 more in all: rooms up to 3 are known in each year, up to 10 in the last two
        DrinkingStones y = Told.with(3, 0, Told.stone(9, 1, 0) + Told.rain(3, 1, 0) + Told.rain(7, 1, 1));
        y.row(0, 0, 0);
        eq("the first of several", y.ask(0, 0), 2);
        DrinkingStones last = Told.with(12, 0, Told.stone(9, 1, 0) + Told.rain(20, 1, 11));
        last.row(0, 0, 0);
        eq("the last", last.ask(0, 0), 12);
        // with room for 10 and more its wall falls: 51 rooms of which it is empty
        DrinkingStones fell = Check.of(Told.choir(3, 0, 0) + Told.wall(9, 1) + Told.stone(9, 1, 0) + Told.rain(20, 1, 1));
        fell.row(0, 0, 0);
        eq("empty by most", fell.ask(0, 0), 2);
        eq("empty by most", fell.leaves(0, 0), 51);
        says("NONE: none;");
        DrinkingStones dry = Told.with(12, 0, Told.stone(9, 1, 0));
        dry.row(0, 0, 0);
        eq("as many by each", dry.ask(0, 0), -1);
        Check.row(x, 0, 0, 1, 5);
        eq("one", x.rooms(0, 0) + 10 * x.ask(0, 0), -9);
        Check.row(x, 0, 0, 0, 1);
        eq("none", x.ask(0, 0), -1);
        says("-2, -6 likewise.");
        refusedSlotAndStone("ask", DrinkingStones::ask);
        refusedNumbers("ask", (o, slot) -> o.ask(slot, 0));
        nothingIn("ask", (o, slot) -> o.ask(slot, 0));
    }

    private static void p54() {
        promise(54);
        says("How many it leaves at worst (as now without).");
        DrinkingStones x = Told.a();
        Check.row(x, 0, 0, 1, 6);
        eq("14 and more", x.leaves(0, 0), 47);
        DrinkingStones last = Told.with(12, 0, Told.stone(9, 4, 0) + Told.rain(20, 1, 11));
        last.row(0, 0, 0);
        eq("one", last.leaves(0, 0), 1);
        DrinkingStones dry = Told.with(12, 0, Told.stone(9, 1, 0));
        dry.row(0, 0, 0);
        eq("as now", dry.leaves(0, 0), 60);
        Check.row(x, 0, 0, 1, 5);
        eq("one, as now", x.leaves(0, 0), 1);
        Check.row(x, 0, 0, 0, 1);
        eq("none, as now", x.leaves(0, 0), 0);
        says("-2, -6 likewise.");
        refusedSlotAndStone("leaves", DrinkingStones::leaves);
        refusedNumbers("leaves", (o, slot) -> o.leaves(slot, 0));
        nothingIn("leaves", (o, slot) -> o.leaves(slot, 0));
    }

    private static void p55() {
        promise(55);
        says("LAWS (0 .. 3) by which it is as such a row tells, as bits.");
        DrinkingStones x = Told.with(1, 0, Told.stone(2, 1, 0) + Told.stone(60, 1, 1) + Told.stone(60, 1, 0) + Told.rain(3, 1, 0) + Told.rain(1, 2, 0));
        // by law 1 two come on to the third, by law 2 to the second
        Check.row(x, 0, 0, 0, 0);
        eq("all", x.laws(0), 15);
        Check.row(x, 0, 2, 1, 6);
        eq("law 1", x.laws(0), 2);
        Check.row(x, 0, 1, 1, 6);
        eq("law 2", x.laws(0), 4);
        Check.row(x, 0, 1, 1, 4, 2, 1, 4);
        eq("laws 0 and 3", x.laws(0), 9);
        Check.row(x, 0, 1, 1, 6, 2, 1, 6);
        eq("none", x.laws(0), 0);
        x.row(1, 0, 0);
        eq("nothing seen", x.laws(1), 15);
        eq("law as told yet", x.count(1), 0);
        says("-2 (STONE aside; no CHOIR), -6 likewise.");
        DrinkingStones y = Told.a();
        for (int slot = 0; slot <= 3; slot++) {
            y.row(slot, 0, 3);
        }
        beyond("laws", 4, y::laws);
        noChoir("laws", o -> o.laws(0));
        eq("a row of a choir that was", rowThenNoChoir().laws(0), -2);
        DrinkingStones bare = Check.of(Told.BARE);
        bare.row(0, 0, 0);
        eq("no stones, nothing seen", bare.laws(0), 15);
        bare.row(0, 0, 3);
        eq("no stones, one seen", bare.laws(0), -2);
        refusedNumbers("laws", DrinkingStones::laws);
        nothingIn("laws", DrinkingStones::laws);
    }

    // ---- by laws, shares, games ----

    private static void p56() {
        promise(56);
        says("MEASURES in all STONES in the last YEAR by a LAW in place of the one told.");
        int[] by = {19, 19, 30, 19};
        for (int law = 0; law <= 3; law++) {
            eq("by " + law, Told.a().by(law), by[law]);
        }
        eq("no stones", Check.of(Told.BARE).by(3), 0);
        DrinkingStones x = Told.a();
        x.by(2);
        eq("the one told", x.count(1), 1);
        eq("as told", x.all(4), 19);
        says("-2: there is none such (0 .. 3), no CHOIR.");
        beyond("by", 4, x::by);
        for (int law = -1; law <= 4; law++) {
            eq("no choir", new DrinkingStones().by(law), -2);
        }
        noChoir("by", o -> o.by(0));
    }

    private static void p57() {
        promise(57);
        says("The LAW by which most WALLS stand in the last YEAR, the least of several.");
        // what comes on only makes loads greater, and what is pressed out leaves them: no law has more walls stand than law 0
        for (int told = 0; told <= 3; told++) {
            String text = Told.choir(1, told, 0) + Told.wall(20, 1) + Told.stone(4, 1, 0) + Told.stone(60, 1, 0) + Told.rain(13, 1, 0);
            DrinkingStones x = Check.of(text);
            eq("stands as told, " + told, x.stands(1), told == 1 || told == 2 ? 0 : 1);
            eq("law when told is " + told, x.law(), 0);
            eq("as told yet", x.count(1), told);
            eq("no walls", Check.of(Told.choir(1, told, 0)).law(), 0);
        }
        says("-2: there is no CHOIR.");
        noChoir("law", DrinkingStones::law);
    }

    private static void p58() {
        promise(58);
        says("What a set of STONES (bits) is worth (VI).");
        int[] worth = {0, 10, 20, 0, 19, 29, 39, 19};
        for (int set = 0; set < 8; set++) {
            eq("worth " + set, Told.a().worth(set), worth[set]);
        }
        eq("no stones", Check.of(Told.BARE).worth(0), 0);
        DrinkingStones six = Told.with(1, 0, Told.stone(60, 4, 0).repeat(3) + Told.stone(60, 4, 1).repeat(3) + Told.rain(20, 1, 0));
        eq("all six", six.worth(63), 360);
        eq("the sixth", six.worth(32), 60);
        says("-2: there is no such set, no CHOIR.");
        DrinkingStones x = Told.a();
        beyond("worth", 8, x::worth);
        x.share(0, 0);
        beyond("worth, when shares were asked", 8, x::worth);
        beyond("worth", 64, six::worth);
        eq("no stones", Check.of(Told.BARE).worth(1), -2);
        noChoir("worth", o -> o.worth(0));
    }

    private static void p59() {
        promise(59);
        says("SHARE (VI) of a STONE, above (what 0; below 0, too), below (1).");
        int[][] share = {{-5, 1}, {5, 1}, {19, 1}};
        DrinkingStones x = Told.a();
        for (int s = 0; s < 3; s++) {
            eq("above " + s, x.share(s, 0), share[s][0]);
            eq("below " + s, x.share(s, 1), share[s][1]);
        }
        DrinkingStones half = Told.with(1, 2, Told.stone(4, 1, 0) + Told.stone(20, 1, 0) + Told.rain(5, 1, 0));
        eq("9 / 2", 10 * half.share(0, 0) + half.share(0, 1), 92);
        DrinkingStones none = Told.with(1, 0, Told.stone(4, 1, 0));
        eq("0 / 1", 10 * none.share(0, 0) + none.share(0, 1), 1);
        // whoever comes last of six brings down the wall with 5 on it: 5 / 6 of 1 less 5 / 6
        DrinkingStones six = Check.of(Told.choir(1, 0, 0) + Told.wall(5, 1) + Told.stone(1, 1, 0).repeat(6) + Told.rain(1, 1, 0));
        eq("5 / 6 and 5 / 6 less", six.share(5, 0), 0);
        eq("5 / 6 and 5 / 6 less", six.share(5, 1), 1);
        DrinkingStones third = Check.of(Told.choir(1, 0, 0) + Told.wall(4, 1) + Told.stone(1, 1, 0).repeat(6) + Told.rain(1, 1, 0));
        // the first four bring 1 each, the fifth 4 less, the sixth nothing
        eq("sums to nothing", third.share(0, 0), 0);
        DrinkingStones sixth = Check.of(Told.choir(1, 0, 0) + Told.wall(5, 1) + STRONG + Told.stone(1, 1, 0).repeat(4) + Told.stone(2, 2, 0) + Told.stone(1, 1, 1)
                + Told.rain(1, 1, 0));
        // 1 each, but the last of the five: 5 less, or, for the one of 2, 4 less; that one brings 2 else
        eq("4 / 5 less 5 / 5", sixth.share(0, 0), -1);
        eq("4 / 5 less 5 / 5", sixth.share(0, 1), 5);
        eq("8 / 5 less 4 / 5", sixth.share(4, 0), 4);
        eq("8 / 5 less 4 / 5", sixth.share(4, 1), 5);
        eq("by itself", sixth.share(5, 0), 1);
        says("-1,000,000: there are none such.");
        noSuch("share", 3, -1000000, (o, s) -> o.share(s, 0));
        DrinkingStones y = Told.a();
        doc.beyond("what", 2, -1000000, what -> y.share(0, what));
    }

    private static void p60() {
        promise(60);
        says("GAME (VII): pairs of choices of two STONES at REST, as bits: 1 neither is bunged, 2 the first one is, 4 the other one, 8 both.");
        eq("either", Told.a().rests(0, 1), 6);
        eq("of other walls", Told.a().rests(0, 2), 2);
        eq("of other walls, turned", Told.a().rests(2, 0), 4);
        eq("neither", Told.with(1, 0, Told.stone(9, 1, 0).repeat(2) + Told.rain(8, 1, 0)).rests(0, 1), 1);
        eq("both", Told.with(1, 0, Told.stone(9, 1, 0).repeat(2) + Told.rain(6, 1, 0)).rests(1, 0), 8);
        eq("all", Told.with(1, 0, Told.stone(9, 1, 0).repeat(2) + Told.rain(7, 1, 0)).rests(0, 1), 15);
        says("-2: there are none such, one twice.");
        noSuch("rests", 3, -2, (o, s) -> o.rests(s, 1));
        noSuch("rests, other", 3, -2, (o, s) -> o.rests(1, s));
        for (int s = 0; s < 3; s++) {
            eq("twice " + s, Told.a().rests(s, s), -2);
        }
        eq("one stone", Told.with(1, 0, Told.stone(9, 1, 0)).rests(0, 0), -2);
    }

    private static void p61() {
        promise(61);
        says("What the first of two GETS by the choices (1 it is bunged, 0 not; below 0, too).");
        DrinkingStones x = Told.a();
        eq("neither", x.gets(0, 1, 0, 0), -10);
        eq("the first", x.gets(0, 1, 1, 0), 7);
        eq("the other", x.gets(0, 1, 0, 1), 10);
        eq("both", x.gets(0, 1, 1, 1), 7);
        eq("turned", x.gets(1, 0, 0, 1), 20);
        eq("when another wall fell", Told.a().gets(2, 0, 0, 0), 19);
        eq("bunged, and its wall fell", Check.of(Told.choir(1, 0, 0) + Told.wall(9, 1) + Told.stone(9, 1, 0).repeat(3) + Told.rain(5, 1, 0)).gets(2, 0, 1, 0), -3);
        eq("as many as can be", Told.with(1, 0, Told.stone(60, 4, 0).repeat(2) + Told.rain(20, 1, 0)).gets(0, 1, 0, 0), 60);
        says("-1,000: there are none such, one twice.");
        noSuch("gets", 3, -1000, (o, s) -> o.gets(s, 1, 0, 0));
        noSuch("gets, other", 3, -1000, (o, s) -> o.gets(1, s, 0, 0));
        doc.beyond("x", 2, -1000, c -> x.gets(0, 1, c, 0));
        doc.beyond("y", 2, -1000, c -> x.gets(0, 1, 0, c));
        for (int s = 0; s < 3; s++) {
            eq("twice " + s, x.gets(s, s, 0, 0), -1000);
        }
    }

    // ---- chance ----

    private static void p62() {
        promise(62);
        says("CHANCE (VIII): that a WALL stands in the last YEAR, above, below.");
        eq("5 / 8", 10 * Told.a().chance(0, 0) + Told.a().chance(0, 1), 58);
        eq("1 / 1", 10 * Told.a().chance(1, 0) + Told.a().chance(1, 1), 11);
        String eight = Told.wall(0, 1) + Told.stone(9, 1, 0) + Told.rain(1, 1, 0).repeat(8);
        DrinkingStones rare = Check.of(Told.choir(1, 0, 9) + eight);
        eq("1 of", rare.chance(0, 0), 1);
        eq("a hundred million", rare.chance(0, 1), 100000000);
        DrinkingStones often = Check.of(Told.choir(1, 0, 1) + eight);
        eq("9 times eight", often.chance(0, 0), 43046721);
        eq("a hundred million", often.chance(0, 1), 100000000);
        DrinkingStones never = Check.of(Told.choir(1, 0, 10) + eight);
        eq("0 / 1", 10 * never.chance(0, 0) + never.chance(0, 1), 1);
        DrinkingStones sure = Check.of(Told.choir(1, 0, 0) + eight);
        eq("1 / 1", 10 * sure.chance(0, 0) + sure.chance(0, 1), 11);
        says("-2: there are none such.");
        noSuch("chance", 2, -2, (o, w) -> o.chance(w, 0));
        DrinkingStones x = Told.a();
        beyond("what", 2, what -> x.chance(0, what));
    }

    private static void p63() {
        promise(63);
        says("The mean of MEASURES in all STONES in the last YEAR, above, below.");
        DrinkingStones x = Check.of(Told.choir(1, 0, 3) + STRONG + Told.stone(9, 1, 0) + Told.rain(5, 1, 0));
        eq("3 / 2", 10 * x.mean(0) + x.mean(1), 32);
        // of all eight ways: 0, 20, 28, 20, 14, 40, 13, 19
        eq("77 / 4", 10 * Told.a().mean(0) + Told.a().mean(1), 774);
        DrinkingStones most = Check.of(Told.choir(1, 0, 10) + STRONG + Told.stone(60, 4, 0).repeat(6) + Told.rain(20, 1, 0).repeat(8));
        eq("360 / 1", 10 * most.mean(0) + most.mean(1), 3601);
        eq("0 / 1", 10 * Check.of(Told.BARE).mean(0) + Check.of(Told.BARE).mean(1), 1);
        // at most one of eight has room: 1 less the chance of none
        DrinkingStones one = Check.of(Told.choir(1, 0, 1) + STRONG + Told.stone(1, 1, 0) + Told.rain(1, 1, 0).repeat(8));
        eq("above", one.mean(0), 100000000 - 43046721);
        eq("below", one.mean(1), 100000000);
        x.rains(1, 1, 0);
        eq("an act is sure", 10 * x.mean(0) + x.mean(1), 52);
        says("-2: there are none such, no CHOIR.");
        beyond("mean", 2, x::mean);
        noChoir("mean", o -> o.mean(0));
        noChoir("mean", o -> o.mean(1));
    }

    // ---- acts ----

    private static void p64() {
        promise(64);
        says("A RAIN more of n (1 .. 20) of a SORT in a YEAR (ahead of the last): MEASURES in all STONES in the last one then.");
        DrinkingStones x = Told.with(12, 0, Told.stone(60, 1, 0).repeat(2));
        eq("1 of 1 at 0", x.rains(1, 1, 0), 2);
        eq("20 of 5 at 11", x.rains(20, 5, 11), 42);
        eq("in its year", x.has(0, 11), 1);
        eq("of its sort", x.top(1, 12), 5);
        eq("no stones", Check.of(Told.BARE).rains(20, 1, 0), 0);
        says("-2: there are none such;");
        beyond("n less one", 20, n -> x.rains(n + 1, 1, 0));
        beyond("sort less one", 5, sort -> x.rains(1, sort + 1, 0));
        beyond("year", 12, year -> x.rains(1, 1, year));
        eq("none of these", x.count(7), 2);
        eq("the last of one", Check.of(Told.BARE).rains(1, 1, 1), -2);
        noChoir("rains", o -> o.rains(1, 1, 0));
        says("-5: there were 30 acts.");
        DrinkingStones y = Told.with(1, 0, Told.stone(60, 1, 0));
        for (int i = 1; i <= 30; i++) {
            eq("act " + i, y.rains(1, 1, 0), i);
        }
        eq("one more", y.rains(1, 1, 0), -5);
        eq("a tap more", y.taps(0, 1, 0), -5);
        eq("as many as were", y.count(7), 30);
        eq("as much as was", y.all(1), 30);
        y.undo();
        eq("one taken back", y.rains(2, 1, 0), 31);
        eq("one more", y.rains(1, 1, 0), -5);
    }

    private static void p65() {
        promise(65);
        says("A TAP more of a STONE, n (1 .. 60), in a YEAR (ahead of the last): how many MEASURES are HEARD in that YEAR then.");
        DrinkingStones x = Told.with(12, 0, Told.stone(60, 4, 0) + Told.stone(60, 1, 0) + Told.rain(15, 1, 0) + Told.tap(1, 2, 0));
        eq("1 at 0, and those told", x.taps(0, 1, 0), 3);
        eq("60 at 11", x.taps(0, 60, 11), 59);
        eq("none any more", x.taps(0, 1, 11), 59);
        eq("in its year", x.has(0, 11), 59);
        eq("none in an empty year", x.taps(1, 1, 5), 1);
        says("-2, -5 likewise.");
        beyond("stone", 2, stone -> x.taps(stone, 1, 0));
        beyond("n less one", 60, n -> x.taps(0, n + 1, 0));
        beyond("year", 12, year -> x.taps(0, 1, year));
        eq("none of these", x.count(7), 4);
        eq("no stones", Check.of(Told.BARE).taps(0, 1, 0), -2);
        noChoir("taps", o -> o.taps(0, 1, 0));
        DrinkingStones y = Told.with(1, 0, Told.stone(60, 4, 0) + Told.rain(10, 1, 0));
        for (int i = 1; i <= 30; i++) {
            eq("act " + i, y.taps(0, 1, 0), i);
        }
        eq("one more", y.taps(0, 1, 0), -5);
        eq("a rain more", y.rains(1, 1, 0), -5);
        eq("as many as were", y.count(7), 30);
        eq("as many as were", y.tapped(0), 30);
    }

    private static void p66() {
        promise(66);
        says("The latest act is taken back: how many there are.");
        DrinkingStones x = Told.a();
        x.rains(2, 3, 3);
        x.taps(2, 5, 3);
        eq("one is left", x.undo(), 1);
        eq("the tap is", x.has(2, 4), 21);
        eq("none is left", x.undo(), 0);
        eq("the rain is", x.has(2, 4), 19);
        for (int i = 0; i < 30; i++) {
            x.rains(1, 1, 3);
        }
        eq("29 are left", x.undo(), 29);
        says("-2: there is no CHOIR;");
        noChoir("undo", DrinkingStones::undo);
        says("-5: there is none.");
        eq("none", Told.a().undo(), -5);
        x.anew();
        eq("none any more", x.undo(), -5);
        eq("none by it", x.count(7), 0);
    }

    private static void p67() {
        promise(67);
        says("All are: how many there were.");
        DrinkingStones x = Told.a();
        eq("none", x.anew(), 0);
        for (int i = 0; i < 30; i++) {
            x.rains(1, 1, 3);
        }
        eq("thirty", x.anew(), 30);
        eq("none then", x.count(7), 0);
        eq("as told", x.all(4), 19);
        eq("none any more", x.anew(), 0);
        says("-2 likewise.");
        noChoir("anew", DrinkingStones::anew);
    }

    // ---- centuries drawn ----

    /** A wall that falls by any of its rains but by a second of a year there is not. */
    private static String drawnText(int odds) {
        return Told.choir(1, 0, odds) + STRONG + Told.wall(4, 1) + Told.stone(60, 1, 1) + Told.rain(5, 1, 0) + Told.rain(5, 1, 1) + Told.rain(2, 1, 0);
    }

    private static void p68() {
        promise(68);
        says("CENTURY drawn (VIII) from a seed (0 .. 2,000,000,000), what 0: RAINS told that come, as bits, 1: WALLS that stand in the last YEAR, as bits.");
        // draws from 0 are 0 8 8, from 7 are 4 6 8, from the last seed 4 3 1
        DrinkingStones x = Check.of(drawnText(4));
        eq("rains from 0", x.drawn(0, 0), 1);
        eq("walls from 0", x.drawn(0, 1), 1);
        eq("rains from 7", x.drawn(7, 0), 0);
        eq("walls from 7", x.drawn(7, 1), 3);
        eq("rains from the last", x.drawn(LAST_SEED, 0), 6);
        eq("walls from the last", x.drawn(LAST_SEED, 1), 3);
        eq("all come", Check.of(drawnText(10)).drawn(5, 0), 7);
        eq("none comes", Check.of(drawnText(0)).drawn(5, 0), 0);
        eq("no rains", Check.of(Told.BARE).drawn(5, 0), 0);
        eq("no walls", Check.of(Told.BARE).drawn(5, 1), 0);
        eq("nothing is done", x.all(1), 0);
        says("-2: there are none such, no CHOIR.");
        for (int seed : new int[] {-1, MIN, LAST_SEED + 1, MAX}) {
            eq("seed " + seed, x.drawn(seed, 0), -2);
            eq("seed " + seed, x.drawn(seed, 1), -2);
        }
        beyond("what", 2, what -> x.drawn(0, what));
        noChoir("drawn", o -> o.drawn(0, 0));
        noChoir("drawn", o -> o.drawn(0, 1));
    }

    private static void p69() {
        promise(69);
        says("Of n (1 .. 20) such from seeds, the seed and 1, .., in how many a WALL stands in the last YEAR.");
        // first draws from 0 on are 0 8 8 7 7 5 6 4 4; from 2,000,000,000 on 4 2
        DrinkingStones x = Check.of(Told.choir(1, 0, 6) + STRONG + Told.wall(4, 1) + Told.stone(60, 1, 1) + Told.rain(5, 1, 0));
        int[] stands = {0, 1, 2, 3, 4, 4, 5, 5, 5};
        for (int n = 1; n <= 9; n++) {
            eq("of " + n, x.luck(0, n, 1), stands[n - 1]);
        }
        eq("of 8 from 1 on", x.luck(1, 8, 1), 5);
        eq("the other wall", x.luck(0, 20, 0), 20);
        int many = 0;
        for (int seed = 0; seed < 20; seed++) {
            many += x.drawn(seed, 1) >> 1;
        }
        eq("of 20", x.luck(0, 20, 1), many);
        DrinkingStones y = Check.of(Told.choir(1, 0, 3) + Told.wall(4, 1) + Told.stone(60, 1, 0) + Told.rain(5, 1, 0));
        eq("the last seed", y.luck(LAST_SEED, 1, 0), 1);
        eq("the last seed and one behind it", y.luck(LAST_SEED, 2, 0), 1);
        says("-2: there are none such.");
        for (int seed : new int[] {-1, MIN, LAST_SEED + 1, MAX}) {
            eq("seed " + seed, x.luck(seed, 1, 0), -2);
        }
        beyond("n less one", 20, n -> x.luck(0, n + 1, 0));
        noSuch("luck", 2, -2, (o, w) -> o.luck(0, 1, w));
    }

    private static void p70() {
        promise(70);
        says("bears of a WALL is n (0 .. 300) from now on: what it was.");
        DrinkingStones x = Told.a();
        eq("26", x.rate(0, 26), 20);
        eq("from now on", x.wall(0, 0), 26);
        eq("it stands", x.stands(4), 3);
        eq("300", x.rate(0, 300), 26);
        eq("0", x.rate(0, 0), 300);
        eq("it falls sooner", x.falls(0), 2);
        eq("gives as told", x.wall(0, 1), 5);
        eq("the other as told", x.wall(1, 0), 100);
        x.rains(1, 1, 0);
        x.anew();
        eq("not taken back with acts", x.wall(0, 0), 0);
        says("-2: there are none such;");
        DrinkingStones y = Told.a();
        beyond("n", 301, n -> y.rate(0, n));
        eq("as it was", y.wall(0, 0), 20);
        noSuch("rate", 2, -2, (o, w) -> o.rate(w, 0));
        says("-5: there are acts that are not taken back.");
        DrinkingStones z = Told.a();
        z.taps(0, 1, 0);
        eq("a tap", z.rate(0, 5), -5);
        eq("as it was", z.wall(0, 0), 20);
        z.rains(1, 1, 0);
        z.undo();
        eq("one of two", z.rate(0, 5), -5);
        z.undo();
        eq("none", z.rate(0, 5), 20);
    }

    private static void p71() {
        promise(71);
        says("0 years, 1 LAW, 2 odds, 3 WALLS, 4 STONES, 5 RAINS told, 6 TAPS told, 7 acts, 8 LINES, 9 bytes of the TAPE, 10 SLOTS that have a row.");
        DrinkingStones x = Check.of(Told.GREATEST);
        int[] most = {12, 3, 10, 3, 6, 8, 6, 0, 24, 0, 0};
        for (int what = 0; what <= 10; what++) {
            eq("count of " + what, x.count(what), most[what]);
        }
        for (int i = 0; i < 30; i++) {
            x.rains(1, 1, 0);
        }
        x.taps(0, 1, 0);
        eq("acts", x.count(7), 30);
        eq("rains told alone", x.count(5), 8);
        eq("taps told alone", x.count(6), 6);
        for (int i = 1; i <= 31; i++) {
            x.feed(0, 0, 0, 0, 0);
        }
        eq("tape", x.count(9), 600);
        for (int slot = 3; slot >= 0; slot--) {
            x.row(slot, 0, 0);
            x.row(slot, 1, 1);
            eq("slots", x.count(10), 4 - slot);
        }
        says("NONE for others.");
        doc.beyond("count", 11, -1, x::count);
        doc.beyond("count without a choir", 11, -1, new DrinkingStones()::count);
    }

    // ---- images ----

    private static void p72() {
        promise(72);
        says("IMAGE k (0 .. 2) keeps the CHOIR, and acts: 0.");
        DrinkingStones x = Told.a();
        for (int k = 0; k <= 2; k++) {
            eq("image of " + k, x.image(k), 0);
            x.rains(1, 1, 3);
        }
        for (int k = 2; k >= 0; k--) {
            x.back(k);
            eq("acts of " + k, x.count(7), k);
        }
        x.rate(0, 7);
        eq("in place of another", x.image(0), 0);
        x.rate(0, 9);
        x.back(0);
        eq("the later one", x.wall(0, 0), 7);
        says("-2: no such k.");
        beyond("image", 3, x::image);
        beyond("image without a choir", 3, new DrinkingStones()::image);
    }

    private static void p73() {
        promise(73);
        says("It is as IMAGE k has it: 0.");
        DrinkingStones x = Told.a();
        x.rains(2, 3, 3);
        eq("image", x.image(2), 0);
        Check.feed(x, Told.GREATEST);
        x.choir();
        x.image(1);
        x.row(0, 0, 3);
        x.feed(0, 0, 0, 0, 0);
        eq("back", x.back(2), 0);
        int[] due = {4, 1, 5, 2, 3, 3, 1, 1, 10, 20, 1};
        for (int what = 0; what <= 10; what++) {
            eq("count of " + what, x.count(what), due[what]);
        }
        eq("water", x.all(4), 21);
        x.undo();
        x.undo();
        x.rate(0, 300);
        eq("again", x.back(2), 0);
        eq("acts", x.count(7), 1);
        eq("bears", x.wall(0, 0), 20);
        eq("the other", x.back(1), 0);
        eq("lines", x.count(8), 24);
        eq("stones", x.stone(5, 0), 60);
        DrinkingStones y = new DrinkingStones();
        y.image(0);
        Check.feed(y, Told.A);
        y.choir();
        eq("to no choir", y.back(0), 0);
        eq("there is none", y.all(0), -2);
        says("-2: no such k;");
        beyond("back", 3, x::back);
        says("-6: it has nothing.");
        DrinkingStones z = Told.a();
        z.image(1);
        eq("0", z.back(0), -6);
        eq("2", z.back(2), -6);
        eq("as it was", z.all(4), 19);
        eq("without a choir", new DrinkingStones().back(0), -6);
    }

    // ---- slots ----

    private static void p74() {
        promise(74);
        says("A SLOT (0 .. 3) has a row of n numbers of a WIDTH, all 0 (in place of another one): 0.");
        DrinkingStones x = Told.a();
        for (int slot = 0; slot <= 3; slot++) {
            for (int width = 0; width <= 3; width++) {
                eq("row of 60", x.row(slot, width, 60), 0);
                eq("the sixtieth", x.write(slot, 59, 7), 0);
                x.write(slot, 0, 7);
                eq("row of 3", x.row(slot, width, 3), 0);
                eq("all 0", x.rooms(slot, 0), 60);
                eq("three alone", x.write(slot, 3, 7), -7);
                x.row(slot, width, 60);
                eq("all 0, the last, too", x.rooms(slot, 0), 60);
            }
        }
        eq("row of 0", x.row(0, 0, 0), 0);
        eq("no number", x.write(0, 0, 0), -7);
        says("-2: there is no such SLOT or WIDTH (0 .. 3), or n is above 60;");
        x.row(1, 1, 3);
        x.write(1, 2, 6);
        x.write(1, 1, 1);
        beyond("slot", 4, slot -> x.row(slot, 0, 3));
        beyond("width", 4, width -> x.row(1, width, 3));
        for (int n : new int[] {61, 62, 256, 65536, MAX}) {
            eq("row of " + n, x.row(1, 1, n), -2);
        }
        eq("no slot, n below 0", x.row(4, 0, -1), -2);
        eq("no width, n below 0", x.row(1, 4, -1), -2);
        eq("as it was", x.rooms(1, 0), 55);
        says("-3, and the SLOT stays: n is below 0.");
        for (int n : new int[] {-1, -60, MIN}) {
            eq("row of " + n, x.row(1, 0, n), -3);
            eq("it stays", x.rooms(1, 0), 55);
            DrinkingStones y = new DrinkingStones();
            eq("row of " + n, y.row(1, 0, n), -3);
            eq("nothing yet", y.count(10), 0);
        }
    }

    private static void p75() {
        promise(75);
        says("Number i of the SLOT's row is v, cut to its WIDTH: 0.");
        DrinkingStones x = Told.a();
        long[] all = {256, 65536, 4294967296L, 0};
        for (int width = 0; width <= 3; width++) {
            x.row(width, width, 6);
            // stone 0 had 6 in year 1, written around once; then its room, 10, in year 2
            long[] seen = {0, 1, 6, 0, 2, 10};
            for (int i = 0; i < 6; i++) {
                eq("write of " + i, x.write(width, i, seen[i] + all[width]), 0);
            }
            eq("seen, width " + width, x.least(width, 0), 10);
            eq("seen, width " + width, x.rooms(width, 0), 1);
            for (int i = 0; i < 6; i++) {
                x.write(width, i, seen[i] - 3 * all[width]);
            }
            eq("around from below, width " + width, x.least(width, 0), 10);
            x.write(width, 0, Long.MIN_VALUE);
            eq("the least, width " + width, x.rooms(width, 0), width == 3 ? -2 : 1);
            x.write(width, 0, Long.MAX_VALUE);
            eq("the greatest, width " + width, x.rooms(width, 0), -2);
        }
        says("-2: there is no such SLOT;");
        beyond("slot", 4, slot -> x.write(slot, 0, 0));
        says("-6: it has nothing;");
        DrinkingStones y = Told.a();
        for (int slot = 0; slot <= 3; slot++) {
            eq("slot " + slot, y.write(slot, 0, 0), -6);
            eq("slot " + slot + ", no such number", y.write(slot, -1, 0), -6);
        }
        says("-7: there is no such number.");
        y.row(0, 0, 60);
        doc.beyond("number", 60, -7, i -> y.write(0, i, 9));
        eq("none is written", y.rooms(0, 0), 60);
        y.row(0, 0, 1);
        doc.beyond("number", 1, -7, i -> y.write(0, i, 9));
        y.row(0, 0, 0);
        doc.beyond("number", 0, -7, i -> y.write(0, i, 9));
    }

    private static void p76() {
        promise(76);
        says("So many numbers of a SLOT's row, from one on, are put to another one's (or its own), from one on, as they were: 0.");
        DrinkingStones x = Told.a();
        Check.row(x, 0, 9, 0, 1, 6);
        Check.row(x, 1, 0, 0, 0);
        eq("three", x.paste(0, 1, 1, 0, 3), 0);
        eq("put", x.rooms(1, 0), 55);
        eq("one", x.paste(0, 1, 1, 1, 1), 0);
        eq("put: year 0 has not 6", x.rooms(1, 0), 0);
        eq("the row itself stays", x.rooms(0, 0), -2);
        eq("to its own, on", x.paste(0, 0, 0, 1, 3), 0);
        // 9 9 0 1, of which 9 0 1 are no sighting, 0 1 7 are
        Check.row(x, 2, 0, 0, 0);
        x.paste(0, 2, 2, 0, 2);
        x.write(2, 2, 6);
        eq("as they were", x.rooms(2, 0), 55);
        Check.row(x, 0, 9, 0, 1, 6);
        eq("to its own, back", x.paste(0, 1, 0, 0, 3), 0);
        x.paste(0, 0, 1, 0, 3);
        eq("as they were", x.rooms(1, 0), 55);
        x.row(2, 2, 60);
        x.row(3, 2, 60);
        eq("sixty", x.paste(2, 0, 3, 0, 60), 0);
        eq("no numbers, at the ends", x.paste(2, 60, 3, 60, 0), 0);
        says("-2: there is no such SLOT;");
        beyond("slot", 4, slot -> x.paste(slot, 0, 1, 0, 1));
        beyond("to", 4, to -> x.paste(1, 0, to, 0, 1));
        says("-6: one has nothing;");
        DrinkingStones y = Told.a();
        Check.row(y, 0, 0, 1, 6);
        eq("the first", y.paste(1, 0, 0, 0, 1), -6);
        eq("the other", y.paste(0, 0, 1, 0, 1), -6);
        eq("both", y.paste(1, 0, 2, 0, 1), -6);
        eq("one twice", y.paste(1, 0, 1, 0, 0), -6);
        eq("beyond, too", y.paste(1, -1, 0, 99, -1), -6);
        says("-8: they are not of one WIDTH;");
        for (int width = 0; width <= 3; width++) {
            y.row(width, width, 3);
        }
        for (int from = 0; from <= 3; from++) {
            for (int to = 0; to <= 3; to++) {
                eq("widths " + from + " " + to, y.paste(from, 0, to, 0, 1), from == to ? 0 : -8);
                eq("widths " + from + " " + to + ", beyond", y.paste(from, -1, to, 0, 9), from == to ? -7 : -8);
            }
        }
        says("-7, and nothing happens: some are beyond their rows, or a place or n is below 0.");
        DrinkingStones z = Told.a();
        Check.row(z, 0, 9, 9, 9, 9, 9, 9);
        Check.row(z, 1, 0, 1, 6);
        int[][] bad = {{4, 0, 3}, {0, 1, 3}, {6, 0, 1}, {0, 3, 1}, {7, 0, 0}, {0, 4, 0}, {0, 0, 4}, {-1, 0, 1}, {0, -1, 1}, {0, 0, -1}, {-1, 0, 0}, {0, -1, 0},
            {MIN, 0, 1}, {0, MIN, 1}, {0, 0, MIN}, {MAX, 0, 1}, {0, MAX, 1}, {0, 0, MAX}, {1, 0, MAX}, {0, 1, MAX}, {MAX, MAX, MAX}, {MAX, 0, MIN}, {-1, -1, 3}};
        for (int[] one : bad) {
            eq("paste " + java.util.Arrays.toString(one), z.paste(0, one[0], 1, one[1], one[2]), -7);
            eq("nothing happens", z.rooms(1, 0), 55);
        }
        eq("its own, beyond", z.paste(1, 0, 1, 1, 3), -7);
        eq("nothing happens", z.rooms(1, 0), 55);
    }
}
