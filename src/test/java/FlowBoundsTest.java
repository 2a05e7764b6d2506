import java.util.function.IntToLongFunction;

/** Promises 1 to 42, sentence by sentence: each with its own tests at its bounds. */
public final class FlowBoundsTest {
    private static Says doc;
    private static final int MAX = Integer.MAX_VALUE;
    private static final int MIN = Integer.MIN_VALUE;
    private static final String STRONG = Told.STRONG;
    /** A wall that falls in its first year, and one that stands. */
    private static final String FALL = Told.choir(3, 0, 0) + Told.wall(4, 1) + STRONG + Told.stone(5, 1, 0) + Told.stone(9, 1, 1)
            + Told.rain(5, 1, 0) + Told.rain(3, 2, 1);

    public static void main(String[] args) throws Exception {
        doc = new Says();
        p1();
        p2();
        p3();
        p4();
        p5();
        p6();
        p7();
        p8();
        p9();
        p10to12();
        p13to15();
        p16to17();
        p18();
        p19();
        p20();
        p21();
        p22();
        p23();
        p24();
        p25();
        p26();
        p27();
        p28();
        p29();
        p30();
        p31();
        p32();
        p33();
        p34();
        p35();
        p36();
        p37();
        p38();
        p39();
        p40();
        p41();
        p42();
        doc.end("FlowBoundsTest", 42);
    }

    private static void promise(int number) {
        doc.section("Promise " + number + ":");
    }

    private static void says(String words) {
        doc.says(words);
    }

    private static void eq(String call, long got, long want) {
        doc.eq(call, got, want);
    }

    private static void beyond(String call, int count, IntToLongFunction asked) {
        doc.beyond(call, count, -2, asked);
    }

    // ---- the tape and the choir ----

    private static void p1() {
        promise(1);
        says("No CHOIR.");
        DrinkingStones x = new DrinkingStones();
        eq("all(0)", x.all(0), -2);
        eq("wettest()", x.wettest(), -2);
        for (int what = 0; what <= 10; what++) {
            eq("count of " + what, x.count(what), 0);
        }
        for (int k = 0; k <= 2; k++) {
            eq("back of " + k, x.back(k), -6);
        }
        for (int slot = 0; slot <= 3; slot++) {
            eq("write of " + slot, x.write(slot, 0, 0), -6);
        }
    }

    private static void p2() {
        promise(2);
        says("Twenty bytes come behind the TAPE, four of each number, the highest first: how many it has;");
        DrinkingStones x = new DrinkingStones();
        eq("feed", x.feed(0x63686f69, 0x72207965, 0x61727320, 0x3132206c, 0x61772033), 20);
        eq("feed", x.feed(0x206f6464, 0x73203130, 0x3b202020, 0x20202020, 0x20202020), 40);
        eq("choir", x.choir(), 1);
        eq("years", x.count(0), 12);
        eq("law", x.count(1), 3);
        eq("odds", x.count(2), 10);
        // each of the twenty places is its own: one byte at fault is at fault there
        for (int place = 0; place < 20; place++) {
            int[] five = {0x20202020, 0x20202020, 0x20202020, 0x20202020, 0x20202020};
            five[place / 4] = 0x20202020 & ~(255 << (24 - place % 4 * 8)) | 0xff << (24 - place % 4 * 8);
            eq("feed", x.feed(five[0], five[1], five[2], five[3], five[4]), 20);
            eq("choir", x.choir(), -4);
            eq("place", x.fault(1), place);
        }
        says("NONE, and none come, if it would have more than 600.");
        Check.feed(x, Told.BARE);
        for (int i = 2; i <= 29; i++) {
            x.feed(0x20202020, 0x20202020, 0x20202020, 0x20202020, 0x20202020);
        }
        eq("end", x.end(580), 580);
        eq("580 and 20", x.feed(0x20202020, 0x20202020, 0x20202020, 0x20202020, 0x20202020), 600);
        eq("600 and 20", x.feed(0x23232323, 0x23232323, 0x23232323, 0x23232323, 0x23232323), -1);
        eq("none come", x.count(9), 600);
        x.end(581);
        eq("581 and 20", x.feed(0x23232323, 0x23232323, 0x23232323, 0x23232323, 0x23232323), -1);
        eq("none come", x.count(9), 581);
        x.end(599);
        eq("581 yet", x.count(9), 581);
        eq("none came", x.choir(), 1);
    }

    private static void p3() {
        promise(3);
        says("The TAPE has its first n bytes alone: n;");
        DrinkingStones x = new DrinkingStones();
        eq("0 of 0", x.end(0), 0);
        x.feed(0x63686f69, 0x72202323, 0, 0, 0);
        eq("20 of 20", x.end(20), 20);
        eq("6 of 20", x.end(6), 6);
        eq("has", x.count(9), 6);
        eq("feed behind", x.feed(0x79656172, 0x73203120, 0x6c617720, 0x30206f64, 0x64732030), 26);
        eq("feed behind", x.feed(0x3b202020, 0x20202020, 0x20202020, 0x20202020, 0x20202020), 46);
        eq("the others are gone", x.choir(), 1);
        x.feed(0, 0, 0, 0, 0);
        eq("0 of 20", x.end(0), 0);
        eq("none is left", x.choir(), 0);
        says("NONE, and nothing happens, if it has not so many, or n is below 0.");
        eq("1 of 0", x.end(1), -1);
        x.feed(0x20202020, 0x20202020, 0x20202020, 0x20202020, 0x20202020);
        for (int n : new int[] {21, 600, 601, MAX, -1, MIN}) {
            eq("end of " + n, x.end(n), -1);
            eq("nothing happens by " + n, x.count(9), 20);
        }
        x.end(19);
        eq("a byte that is gone", x.end(20), -1);
    }

    private static void p4() {
        promise(4);
        says("The TAPE (empty then) is the CHOIR (in place of another), nothing done: how many LINES (0: there is none then).");
        DrinkingStones x = Told.a();
        eq("tape", x.count(9), 0);
        x.rains(1, 1, 0);
        x.taps(0, 1, 0);
        Check.feed(x, Told.GREATEST);
        eq("as many as can be", x.choir(), 24);
        eq("tape", x.count(9), 0);
        eq("in place of another", x.count(4), 6);
        eq("nothing done", x.count(7), 0);
        eq("nothing to take back", x.undo(), -5);
        Check.feed(x, Told.BARE);
        eq("one line", x.choir(), 1);
        eq("no walls of another", x.wall(0, 0), -2);
        eq("no stones of another", x.stone(0, 0), -2);
        eq("no rains of another", x.rain(0, 0), -2);
        Check.feed(x, Told.GREATEST);
        x.choir();
        x.rains(1, 1, 0);
        eq("an empty tape", x.choir(), 0);
        eq("there is none then", x.all(0), -2);
        for (int what = 0; what <= 9; what++) {
            eq("count of " + what, x.count(what), 0);
        }
        Check.feed(x, Told.A);
        x.choir();
        Check.feed(x, " \n \n");
        eq("blanks alone", x.choir(), 0);
        eq("there is none then", x.ruin(), -2);
        toldAnew();
        says("-4: a FAULT (all stays).");
        DrinkingStones y = Told.a();
        y.rains(2, 3, 3);
        y.row(1, 0, 3);
        y.image(1);
        for (String bad : new String[] {"#", "choir years 1 law 0 odds 0;" + Told.wall(1, 1) + Told.stone(1, 1, 0) + "wall", Told.GREATEST + "tap"}) {
            Check.feed(y, bad);
            eq("choir of " + bad, y.choir(), -4);
            eq("years", y.count(0), 4);
            eq("walls", y.wall(0, 0), 20);
            eq("stones", y.stone(2, 0), 30);
            eq("acts", y.count(7), 1);
            eq("water", y.all(4), 21);
            eq("lines", y.count(8), 10);
            eq("slots", y.count(10), 1);
        }
        DrinkingStones z = new DrinkingStones();
        Check.feed(z, "#");
        eq("choir", z.choir(), -4);
        eq("there is none yet", z.all(0), -2);
    }

    private static void p5() {
        promise(5);
        says("Of the latest choir(), what 0: its FAULT, 0 without, 1: its place (NONE without).");
        DrinkingStones x = new DrinkingStones();
        String[] texts = {"choir years 0", Told.BARE, "#", " #", "", Told.choir(1, 0, 0) + STRONG.repeat(4)};
        int[][] due = {{2, 12}, {0, -1}, {1, 0}, {1, 1}, {0, -1}, {3, 27 + 3 * STRONG.length()}};
        for (int i = 0; i < texts.length; i++) {
            Check.feed(x, texts[i]);
            eq("as ahead of it", x.fault(1), i == 0 ? -1 : due[i - 1][1]);
            x.choir();
            eq("fault of " + texts[i], x.fault(0), due[i][0]);
            eq("place of " + texts[i], x.fault(1), due[i][1]);
        }
        x.image(0);
        x.back(0);
        eq("of the latest choir() yet", x.fault(0), 3);
        says("NONE for another what, and ahead of any (what 1).");
        doc.beyond("fault", 2, -1, x::fault);
        DrinkingStones y = new DrinkingStones();
        eq("ahead of any, 0", y.fault(0), 0);
        eq("ahead of any, 1", y.fault(1), -1);
        eq("ahead of any, 2", y.fault(2), -1);
        eq("ahead of any, -1", y.fault(-1), -1);
    }

    /** Told anew, all is worked out anew. */
    private static void toldAnew() {
        DrinkingStones x = Told.a();
        x.all(4);
        x.share(0, 0);
        x.chance(0, 0);
        Check.feed(x, FALL);
        x.choir();
        eq("water of another", x.all(1), 5);
        eq("lost of another", x.lost(1), 3);
        eq("share of another", x.share(1, 0), 8);
        eq("chance of another", x.chance(0, 0), 1);
    }

    // ---- what was told ----

    private static void p6() {
        promise(6);
        says("Of a WALL, what 0: bears, 1: gives.");
        DrinkingStones x = Check.of(Told.choir(1, 0, 0) + Told.wall(0, 1) + Told.wall(300, 60) + Told.wall(7, 9));
        int[][] due = {{0, 1}, {300, 60}, {7, 9}};
        for (int w = 0; w < 3; w++) {
            eq("bears of " + w, x.wall(w, 0), due[w][0]);
            eq("gives of " + w, x.wall(w, 1), due[w][1]);
        }
        says("-2: there are none such.");
        beyond("wall", 3, w -> x.wall(w, 0));
        beyond("what", 2, what -> x.wall(2, what));
        eq("no choir", new DrinkingStones().wall(0, 0), -2);
        eq("fewer walls", Told.after(Told.BARE).wall(0, 0), -2);
        eq("none any more", Told.after("").wall(0, 0), -2);
    }

    private static void p7() {
        promise(7);
        says("Of a STONE, what 0: room, 1: wide, 2: its WALL.");
        DrinkingStones x = Check.of(Told.choir(1, 0, 0) + STRONG.repeat(3) + Told.stone(1, 1, 0) + Told.stone(60, 4, 2) + Told.stone(7, 2, 1)
                + Told.stone(8, 3, 0).repeat(3));
        int[][] due = {{1, 1, 0}, {60, 4, 2}, {7, 2, 1}, {8, 3, 0}, {8, 3, 0}, {8, 3, 0}};
        for (int s = 0; s < 6; s++) {
            for (int what = 0; what < 3; what++) {
                eq("stone " + s + " " + what, x.stone(s, what), due[s][what]);
            }
        }
        says("-2: there are none such.");
        beyond("stone", 6, s -> x.stone(s, 0));
        beyond("what", 3, what -> x.stone(5, what));
        eq("no choir", new DrinkingStones().stone(0, 0), -2);
        eq("fewer stones", Told.after(Told.BARE).stone(0, 0), -2);
        eq("none any more", Told.after("").stone(0, 0), -2);
    }

    private static void p8() {
        promise(8);
        says("Of a RAIN told, what 0: how much, 1: its SORT, 2: its YEAR.");
        DrinkingStones x = Check.of(Told.choir(1, 0, 0) + Told.rain(1, 1, 0) + Told.rain(20, 5, 11) + Told.rain(7, 3, 6).repeat(6));
        int[][] due = {{1, 1, 0}, {20, 5, 11}, {7, 3, 6}};
        for (int what = 0; what < 3; what++) {
            eq("rain 0 " + what, x.rain(0, what), due[0][what]);
            eq("rain 1 " + what, x.rain(1, what), due[1][what]);
            eq("rain 7 " + what, x.rain(7, what), due[2][what]);
        }
        says("-2: there are none such.");
        beyond("rain", 8, r -> x.rain(r, 0));
        beyond("what", 3, what -> x.rain(7, what));
        x.rains(1, 1, 0);
        eq("one of an act", x.rain(8, 0), -2);
        eq("no choir", new DrinkingStones().rain(0, 0), -2);
        eq("fewer rains", Told.after(Told.BARE).rain(0, 0), -2);
        eq("none any more", Told.after("").rain(0, 0), -2);
    }

    private static void p9() {
        promise(9);
        says("STONES on a WALL, as bits.");
        DrinkingStones x = Check.of(Told.GREATEST);
        eq("none", x.stones(0), 0);
        eq("all six", x.stones(2), 63);
        eq("two", Told.a().stones(0), 3);
        eq("the third", Told.a().stones(1), 4);
        says("-2: there is none such.");
        beyond("stones", 3, x::stones);
        eq("no choir", new DrinkingStones().stones(0), -2);
        eq("fewer walls", Told.after(Told.BARE).stones(0), -2);
    }

    // ---- one stone in one year ----

    /** What every question of a stone in a year answers where there is no such stone, year or choir. */
    private static void noSuchStoneOrYear(String call, StoneInYear asked) {
        DrinkingStones x = Told.a();
        beyond(call + ", stone", 3, s -> asked.ask(x, s, 0));
        beyond(call + ", year", 5, y -> asked.ask(x, 0, y));
        eq(call + ", both", asked.ask(x, 3, 5), -2);
        // a stone too great in one year is not the first of the next
        eq(call + ", stone 6 of year 0", asked.ask(x, 6, 0), -2);
        eq(call + ", stone -3 of year 1", asked.ask(x, -3, 1), -2);
        eq(call + ", no choir", asked.ask(new DrinkingStones(), 0, 0), -2);
        eq(call + ", no stones", asked.ask(Check.of(Told.BARE), 0, 0), -2);
        eq(call + ", fewer stones", asked.ask(Told.after(Told.BARE), 0, 0), -2);
        eq(call + ", fewer years", asked.ask(Told.after(Told.choir(3, 0, 0) + STRONG + Told.stone(1, 1, 0)), 0, 4), -2);
    }

    private interface StoneInYear {
        long ask(DrinkingStones x, int stone, int year);
    }

    private static void p10to12() {
        promise(10);
        says("MEASURES in a STONE in a YEAR.");
        DrinkingStones x = Told.a();
        int[][] has = {{0, 6, 10, 0, 0}, {0, 12, 16, 0, 0}, {0, 6, 14, 19, 19}};
        for (int s = 0; s < 3; s++) {
            for (int y = 0; y <= 4; y++) {
                eq("has " + s + " " + y, x.has(s, y), has[s][y]);
            }
        }
        eq("as many as can be", Told.with(1, 0, Told.stone(60, 4, 0) + Told.rain(15, 1, 0)).has(0, 1), 60);
        says("-2: there are none such.");
        noSuchStoneOrYear("has", DrinkingStones::has);

        promise(11);
        says("LAYERS in it then: how many.");
        eq("none", x.layers(2, 0), 0);
        eq("one", x.layers(2, 1), 1);
        eq("two", x.layers(2, 2), 2);
        eq("three", x.layers(2, 4), 3);
        eq("none on a wall that fell", x.layers(1, 3), 0);
        says("-2 likewise.");
        noSuchStoneOrYear("layers", DrinkingStones::layers);

        promise(12);
        says("LAYER i (from 0, the lowest) of it then, what 0: its SORT, 1: its MEASURES.");
        int[][] layers = {{1, 6}, {2, 8}, {1, 5}};
        for (int i = 0; i < 3; i++) {
            eq("sort of " + i, x.layer(2, 4, i, 0), layers[i][0]);
            eq("measures of " + i, x.layer(2, 4, i, 1), layers[i][1]);
        }
        says("NONE: there is no such LAYER;");
        doc.beyond("layer", 3, -1, i -> x.layer(2, 4, i, 0));
        doc.beyond("layer", 3, -1, i -> x.layer(2, 4, i, 1));
        eq("of an empty stone", x.layer(2, 0, 0, 0), -1);
        eq("of a wall that fell", x.layer(1, 3, 0, 1), -1);
        eq("of the next year", x.layer(2, 1, 1, 0), -1);
        says("-2: there are none such.");
        noSuchStoneOrYear("layer", (o, s, y) -> o.layer(s, y, 0, 0));
        noSuchStoneOrYear("no layer", (o, s, y) -> o.layer(s, y, -1, 1));
        DrinkingStones z = Told.a();
        beyond("what", 2, what -> z.layer(2, 4, 0, what));
    }

    private static void p13to15() {
        promise(13);
        says("MEASURES of a SORT (1 .. 5) in it then.");
        DrinkingStones x = Told.a();
        eq("of two layers", x.sort(2, 4, 1), 11);
        eq("of one", x.sort(2, 4, 2), 8);
        eq("none", x.sort(2, 4, 5), 0);
        eq("of an empty stone", x.sort(2, 0, 1), 0);
        eq("sort 5", Told.with(1, 0, Told.stone(60, 1, 0) + Told.rain(7, 5, 0)).sort(0, 1, 5), 7);
        says("-2: there are none such.");
        noSuchStoneOrYear("sort", (o, s, y) -> o.sort(s, y, 1));
        DrinkingStones z = Told.a();
        beyond("sort less one", 5, sort -> z.sort(2, 4, sort + 1));

        promise(14);
        says("The SORT of its top LAYER then.");
        eq("one layer", x.top(2, 1), 1);
        eq("two layers", x.top(2, 2), 2);
        eq("three layers", x.top(2, 3), 1);
        says("0: it is empty;");
        eq("year 0", x.top(2, 0), 0);
        eq("on a wall that fell", x.top(0, 3), 0);
        says("-2: there are none such.");
        noSuchStoneOrYear("top", DrinkingStones::top);

        promise(15);
        says("The SORT of its lowest LAYER then.");
        eq("one layer", x.under(2, 1), 1);
        eq("two layers", Told.with(2, 0, Told.stone(9, 1, 0) + Told.rain(1, 5, 0) + Told.rain(1, 2, 1)).under(0, 2), 5);
        says("0: it is empty;");
        eq("year 0", x.under(2, 0), 0);
        eq("on a wall that fell", x.under(1, 4), 0);
        says("-2 likewise.");
        noSuchStoneOrYear("under", DrinkingStones::under);
    }

    private static void p16to17() {
        promise(16);
        says("How much more room it has then (as told; of one on a WALL that fell, too).");
        DrinkingStones x = Told.a();
        eq("empty", x.left(1, 0), 20);
        eq("some", x.left(1, 2), 4);
        eq("full", x.left(0, 2), 0);
        eq("when it fell", x.left(0, 3), 10);
        eq("when it fell", x.left(1, 4), 20);
        Check.row(x, 0, 0, 1, 6);
        x.rooms(0, 0);
        eq("as told", x.left(0, 0), 10);
        says("-2 likewise.");
        noSuchStoneOrYear("left", DrinkingStones::left);

        promise(17);
        says("MEASURES of its thickest LAYER then.");
        eq("the only one", x.thick(2, 1), 6);
        eq("the middle one", x.thick(2, 4), 8);
        eq("the lowest", Told.with(1, 0, Told.stone(9, 1, 0) + Told.rain(5, 1, 0) + Told.rain(3, 2, 0)).thick(0, 1), 5);
        says("0: it is empty;");
        eq("year 0", x.thick(2, 0), 0);
        eq("on a wall that fell", x.thick(0, 4), 0);
        says("-2 likewise.");
        noSuchStoneOrYear("thick", DrinkingStones::thick);
    }

    // ---- all stones together ----

    private static void noSuchYear(String call, InYear asked) {
        DrinkingStones x = Told.a();
        beyond(call, 5, y -> asked.ask(x, y));
        eq(call + ", fewer years", asked.ask(Told.after(Told.choir(3, 0, 0)), 4), -2);
        noChoir(call, asked);
    }

    private static void noSuchYearAheadOfLast(String call, InYear asked) {
        DrinkingStones x = Told.a();
        beyond(call, 4, y -> asked.ask(x, y));
        eq(call + ", the last of one", asked.ask(Check.of(Told.BARE), 1), -2);
        noChoir(call, asked);
    }

    private static void noChoir(String call, InYear asked) {
        for (int year = -1; year <= 1; year++) {
            eq(call + ", no choir", asked.ask(new DrinkingStones(), year), -2);
            eq(call + ", none any more", asked.ask(Told.after(""), year), -2);
        }
    }

    private interface InYear {
        long ask(DrinkingStones x, int year);
    }

    private static void p18() {
        promise(18);
        says("The YEAR ahead of the last by whose end all STONES together have most more than at its begin (or least less), the first of several.");
        String stone = Told.stone(60, 1, 0);
        eq("most more", Told.with(3, 0, stone + Told.rain(3, 1, 0) + Told.rain(5, 1, 1) + Told.rain(4, 1, 2)).wettest(), 1);
        eq("the first of several", Told.with(3, 0, stone + Told.rain(3, 1, 0) + Told.rain(5, 1, 1) + Told.rain(5, 1, 2)).wettest(), 1);
        eq("the first, then less more", Told.with(3, 0, stone + Told.rain(5, 1, 0) + Told.rain(4, 1, 1)).wettest(), 0);
        eq("all alike", Told.with(3, 0, stone).wettest(), 0);
        eq("the last but one", Told.with(12, 0, stone + Told.rain(3, 1, 11)).wettest(), 11);
        eq("not the last", Told.with(2, 0, stone + Told.rain(3, 1, 1) + Told.rain(9, 1, 2)).wettest(), 1);
        eq("one year", Check.of(Told.BARE).wettest(), 0);
        eq("by its end, taps too", Told.with(2, 0, stone + Told.rain(9, 1, 0) + Told.tap(0, 8, 0) + Told.rain(2, 1, 1)).wettest(), 1);
        // what falls in the year in which it came is neither more nor less
        eq("all fallen", Check.of(Told.choir(3, 0, 0) + Told.wall(9, 1) + stone + stone + Told.rain(5, 1, 0)).wettest(), 0);
        eq("more ahead of less", Check.of(Told.choir(3, 0, 0) + STRONG + stone + Told.rain(5, 1, 0) + Told.tap(0, 3, 1) + Told.tap(0, 1, 2)).wettest(), 0);
        says("-2: there is no CHOIR.");
        eq("none", new DrinkingStones().wettest(), -2);
        eq("none any more", Told.after("").wettest(), -2);
    }

    private static void p19() {
        promise(19);
        says("The first YEAR in which some WALL does not stand.");
        eq("the third", Told.a().ruin(), 3);
        eq("the first", Check.of(FALL).ruin(), 1);
        eq("the last", Told.with(12, 0, "").ruin() + Check.of(Told.choir(12, 0, 0) + STRONG + Told.wall(0, 1) + Told.stone(9, 1, 1) + Told.rain(1, 1, 11)).ruin(), 11);
        eq("the first of two", Check.of(Told.choir(3, 0, 0) + Told.wall(3, 1) + Told.wall(0, 1) + Told.stone(9, 1, 0) + Told.stone(9, 1, 1)
                + Told.rain(2, 1, 0) + Told.rain(2, 1, 1)).ruin(), 1);
        says("NONE: in none;");
        eq("all stand", Told.with(3, 0, Told.stone(9, 1, 0) + Told.rain(5, 1, 0)).ruin(), -1);
        eq("no walls", Check.of(Told.BARE).ruin(), -1);
        says("-2 likewise.");
        eq("none", new DrinkingStones().ruin(), -2);
        eq("none any more", Told.after("").ruin(), -2);
    }

    private static void p20() {
        promise(20);
        says("STONES that are empty in a YEAR, as bits.");
        eq("all", Told.a().dry(0), 7);
        eq("none", Told.a().dry(1), 0);
        eq("two", Told.a().dry(4), 3);
        eq("all six", Check.of(Told.GREATEST).dry(11), 63);
        eq("no stones", Check.of(Told.BARE).dry(0), 0);
        says("-2: there is none such, no CHOIR.");
        noSuchYear("dry", DrinkingStones::dry);
    }

    private static void p21() {
        promise(21);
        says("MEASURES of a SORT in all STONES in a YEAR.");
        eq("none yet", Told.a().sorted(1, 0), 0);
        eq("of three stones", Told.a().sorted(1, 1), 24);
        eq("of the second sort", Told.a().sorted(2, 2), 20);
        eq("none of it", Told.a().sorted(5, 4), 0);
        eq("no stones", Check.of(Told.BARE).sorted(5, 1), 0);
        says("-2: there are none such, no CHOIR.");
        noSuchYear("sorted", (o, y) -> o.sorted(1, y));
        DrinkingStones x = Told.a();
        beyond("sort less one", 5, sort -> x.sorted(sort + 1, 4));
    }

    private static void p22() {
        promise(22);
        says("lost() of all YEARS together.");
        DrinkingStones x = Told.a();
        eq("together", x.gone(), x.lost(0) + x.lost(1) + x.lost(2) + x.lost(3));
        eq("together", x.gone(), 53);
        eq("of the first", Told.with(12, 0, Told.stone(2, 1, 0) + Told.rain(5, 1, 0)).gone(), 3);
        eq("none", Told.with(12, 0, Told.stone(60, 1, 0) + Told.rain(5, 1, 0)).gone(), 0);
        eq("of the twelfth", Told.with(12, 0, Told.stone(2, 1, 0) + Told.rain(5, 1, 11)).gone(), 3);
        eq("no stones", Check.of(Told.choir(1, 0, 0) + Told.rain(5, 1, 0)).gone(), 0);
        says("-2: there is no CHOIR.");
        eq("none", new DrinkingStones().gone(), -2);
        eq("none any more", Told.after("").gone(), -2);
    }

    private static void p23() {
        promise(23);
        says("The most MEASURES in a STONE in a YEAR less the fewest in one (0 without STONES).");
        eq("most less fewest", Told.a().spread(2), 6);
        eq("fewest is 0", Told.a().spread(4), 19);
        eq("all empty", Told.a().spread(0), 0);
        eq("one stone", Told.with(1, 0, Told.stone(60, 1, 0) + Told.rain(5, 1, 0)).spread(1), 0);
        eq("60 and 0", Check.of(Told.choir(1, 0, 0) + STRONG + Told.wall(0, 1) + Told.stone(60, 4, 0) + Told.stone(60, 4, 1) + Told.rain(20, 1, 0)).spread(1), 60);
        eq("both full", Told.with(1, 0, Told.stone(60, 4, 0).repeat(2) + Told.rain(20, 1, 0)).spread(1), 0);
        eq("without stones", Check.of(Told.choir(2, 0, 0) + STRONG).spread(2), 0);
        says("-2: there is none such, no CHOIR.");
        noSuchYear("spread", DrinkingStones::spread);
    }

    private static void p24() {
        promise(24);
        says("STONES that are full in a YEAR, as bits.");
        eq("none", Told.a().full(1), 0);
        eq("one", Told.a().full(2), 1);
        eq("not one that fell", Told.a().full(3), 0);
        eq("all six", Told.with(1, 0, Told.stone(60, 4, 0).repeat(6) + Told.rain(15, 1, 0)).full(1), 63);
        eq("one less", Told.with(1, 0, Told.stone(5, 1, 0) + Told.stone(6, 1, 0) + Told.stone(4, 1, 0) + Told.rain(5, 1, 0)).full(1), 5);
        eq("no stones", Check.of(Told.BARE).full(1), 0);
        says("-2: there is none such, no CHOIR.");
        noSuchYear("full", DrinkingStones::full);
    }

    // ---- one stone in all years ----

    private static void noSuchStone(String call, IntOf asked) {
        DrinkingStones x = Told.a();
        beyond(call, 3, s -> asked.ask(x, s));
        eq(call + ", no stones", asked.ask(Check.of(Told.BARE), 0), -2);
        eq(call + ", no choir", asked.ask(new DrinkingStones(), 0), -2);
        eq(call + ", fewer stones", asked.ask(Told.after(Told.BARE), 0), -2);
        eq(call + ", none any more", asked.ask(Told.after(""), 0), -2);
    }

    private interface IntOf {
        long ask(DrinkingStones x, int which);
    }

    private static void p25() {
        promise(25);
        says("BEAD: the first YEAR in which a STONE is full.");
        eq("the second", Told.a().bead(0), 2);
        eq("the last", Told.with(12, 0, Told.stone(5, 1, 0) + Told.rain(5, 1, 11)).bead(0), 12);
        eq("the first of several", Told.with(3, 0, Told.stone(5, 1, 0) + Told.rain(9, 1, 0)).bead(0), 1);
        eq("room 60", Told.with(1, 0, Told.stone(60, 3, 0) + Told.rain(20, 1, 0)).bead(0), 1);
        says("NONE: in none;");
        eq("never", Told.a().bead(1), -1);
        eq("one less", Told.with(3, 0, Told.stone(6, 1, 0) + Told.rain(5, 1, 0)).bead(0), -1);
        eq("full, then tapped", Told.with(1, 0, Told.stone(5, 1, 0) + Told.rain(5, 1, 0) + Told.tap(0, 1, 0)).bead(0), -1);
        eq("full, then fallen", Check.of(FALL).bead(0), -1);
        says("-2: there is none such.");
        noSuchStone("bead", DrinkingStones::bead);
    }

    private static void p26() {
        promise(26);
        says("The most MEASURES in a STONE in any YEAR.");
        eq("ahead of its fall", Told.a().most(1), 16);
        eq("in the last", Told.a().most(2), 19);
        eq("never any", Told.with(3, 0, Told.stone(5, 1, 0)).most(0), 0);
        eq("in no year, but ahead of a tap", Told.with(1, 0, Told.stone(5, 1, 0) + Told.rain(5, 1, 0) + Told.tap(0, 5, 0)).most(0), 0);
        eq("as many as can be", Told.with(12, 0, Told.stone(60, 4, 0) + Told.rain(20, 1, 11)).most(0), 60);
        says("-2 likewise.");
        noSuchStone("most", DrinkingStones::most);
    }

    private static void p27() {
        promise(27);
        says("MEASURES in all STONES in a YEAR.");
        int[] all = {0, 24, 40, 19, 19};
        for (int y = 0; y <= 4; y++) {
            eq("all of " + y, Told.a().all(y), all[y]);
        }
        eq("as many as can be", Check.of(Told.choir(1, 0, 0) + Told.wall(300, 60) + Told.stone(60, 4, 0).repeat(6) + Told.rain(20, 1, 0)).all(1), 360);
        eq("no stones", Check.of(Told.BARE).all(1), 0);
        says("-2: there is none such, no CHOIR.");
        noSuchYear("all", DrinkingStones::all);
    }

    private static void p28() {
        promise(28);
        says("The STONE with most MEASURES in a YEAR, the first of several.");
        eq("most", Told.a().deepest(1), 1);
        eq("the last", Told.a().deepest(4), 2);
        eq("all are empty", Told.a().deepest(0), 0);
        eq("the first of several", Told.with(1, 0, Told.stone(2, 1, 0) + Told.stone(9, 1, 0).repeat(2) + Told.rain(5, 1, 0)).deepest(1), 1);
        says("NONE: there are none;");
        eq("no stones", Check.of(Told.choir(2, 0, 0) + STRONG + Told.rain(5, 1, 0)).deepest(2), -1);
        says("-2 likewise.");
        noSuchYear("deepest", DrinkingStones::deepest);
        eq("no stones, no year", Check.of(Told.BARE).deepest(2), -2);
    }

    private static void p29() {
        promise(29);
        says("Unlike SORTS in all STONES in a YEAR, as bits (bit 1 .. 5).");
        eq("none", Told.a().sorts(0), 0);
        eq("two", Told.a().sorts(2), 6);
        StringBuilder five = new StringBuilder(Told.stone(60, 1, 0));
        for (int sort = 1; sort <= 5; sort++) {
            five.append(Told.rain(1, sort, 0));
        }
        eq("all five", Told.with(1, 0, five.toString()).sorts(1), 62);
        eq("sort 5", Told.with(1, 0, Told.stone(60, 1, 0) + Told.rain(1, 5, 0)).sorts(1), 32);
        says("-2 likewise.");
        noSuchYear("sorts", DrinkingStones::sorts);
    }

    // ---- walls ----

    private static void noSuchWall(String call, IntOf asked) {
        DrinkingStones x = Told.a();
        beyond(call, 2, w -> asked.ask(x, w));
        eq(call + ", no walls", asked.ask(Check.of(Told.BARE), 0), -2);
        eq(call + ", no choir", asked.ask(new DrinkingStones(), 0), -2);
        eq(call + ", fewer walls", asked.ask(Told.after(Told.BARE), 0), -2);
        eq(call + ", none any more", asked.ask(Told.after(""), 0), -2);
    }

    private static void p30() {
        promise(30);
        says("LOAD of a WALL in a YEAR (what its STONES have).");
        int[][] loads = {{0, 18, 26, 0, 0}, {0, 6, 14, 19, 19}};
        for (int w = 0; w < 2; w++) {
            for (int y = 0; y <= 4; y++) {
                eq("load " + w + " " + y, Told.a().load(w, y), loads[w][y]);
            }
        }
        eq("no stones on it", Check.of(Told.GREATEST).load(0, 12), 0);
        eq("as much as can be", Check.of(Told.choir(1, 0, 0) + STRONG + Told.stone(60, 4, 0).repeat(6) + Told.rain(20, 1, 0)).load(0, 1), 360);
        says("-2: there are none such.");
        noSuchWall("load", (o, w) -> o.load(w, 0));
        noSuchYear("load", (o, y) -> o.load(0, y));
    }

    private static void p31() {
        promise(31);
        says("How much a WALL has SUNK by a YEAR (one that fell: as when it did).");
        int[] sunk = {0, 0, 2, 5, 5};
        for (int y = 0; y <= 4; y++) {
            eq("sunk 0 " + y, Told.a().sunk(0, y), sunk[y]);
            eq("sunk 1 " + y, Told.a().sunk(1, y), 0);
        }
        // it gives 1 and sinks by 73 at once
        DrinkingStones x = Check.of(Told.choir(2, 0, 0) + Told.wall(0, 1) + Told.stone(60, 4, 0).repeat(6) + Told.rain(20, 1, 0));
        eq("more than it gives", x.sunk(0, 1), 73);
        eq("as when it did", x.sunk(0, 2), 73);
        says("-2 likewise.");
        noSuchWall("sunk", (o, w) -> o.sunk(w, 0));
        noSuchYear("sunk", (o, y) -> o.sunk(0, y));
        eq("wall 3 of year 0", Told.a().sunk(3, 0), -2);
        eq("wall -3 of year 1", Told.a().sunk(-3, 1), -2);
    }

    private static void p32() {
        promise(32);
        says("WALLS that stand in a YEAR, as bits.");
        int[] stands = {3, 3, 3, 2, 2};
        for (int y = 0; y <= 4; y++) {
            eq("stands " + y, Told.a().stands(y), stands[y]);
        }
        eq("all three", Check.of(Told.GREATEST).stands(0), 7);
        eq("no walls", Check.of(Told.BARE).stands(1), 0);
        says("-2: there is none such, no CHOIR.");
        noSuchYear("stands", DrinkingStones::stands);
    }

    private static void p33() {
        promise(33);
        says("The first YEAR in which a WALL does not stand.");
        eq("the third", Told.a().falls(0), 3);
        eq("the first", Check.of(FALL).falls(0), 1);
        eq("the last", Check.of(Told.choir(12, 0, 0) + Told.wall(0, 1) + Told.stone(9, 1, 0) + Told.rain(1, 1, 11)).falls(0), 12);
        says("NONE: in none;");
        eq("never", Told.a().falls(1), -1);
        eq("too late", Check.of(Told.choir(11, 0, 0) + Told.wall(0, 1) + Told.stone(9, 1, 0) + Told.rain(1, 1, 11)).falls(0), -1);
        says("-2: there is none such.");
        noSuchWall("falls", DrinkingStones::falls);
    }

    private static void p34() {
        promise(34);
        says("The WALL that has SUNK most by the last YEAR, the first of several, if at all.");
        String three = Told.choir(1, 0, 0) + Told.wall(5, 60) + "wall bears B gives 60;" + Told.wall(0, 60) + Told.stone(60, 1, 0) + Told.stone(60, 1, 1)
                + Told.stone(60, 1, 2) + Told.rain(10, 1, 0);
        eq("sunk 2, 2, 3", Check.of(three.replace("B", "1")).lowest(), 2);
        eq("sunk 2, 3, 3", Check.of(three.replace("B", "0")).lowest(), 1);
        eq("one alone", Check.of(three.replace("B", "9").replace("bears 5", "bears 10").replace("bears 0", "bears 10")).lowest(), 1);
        eq("one that fell", Told.a().lowest(), 0);
        says("NONE: none;");
        eq("none sank", Told.with(2, 0, Told.stone(9, 1, 0) + Told.rain(9, 1, 0)).lowest(), -1);
        eq("no walls", Check.of(Told.BARE).lowest(), -1);
        says("-2: there is no CHOIR.");
        eq("none", new DrinkingStones().lowest(), -2);
        eq("none any more", Told.after("").lowest(), -2);
    }

    // ---- what went where ----

    private static void p35() {
        promise(35);
        says("MEASURES of a SORT that are HEARD (III) in all.");
        DrinkingStones x = Told.with(3, 0, Told.stone(60, 1, 0).repeat(2) + Told.rain(4, 5, 0) + Told.rain(4, 1, 1) + Told.tap(0, 6, 1) + Told.tap(1, 3, 2) + Told.tap(1, 9, 3));
        eq("of two stones", x.heard(5), 7);
        eq("of the next layer", x.heard(1), 2);
        eq("none", x.heard(3), 0);
        eq("no stones", Check.of(Told.BARE).heard(1), 0);
        says("-2: there are none such, no CHOIR.");
        beyond("sort less one", 5, sort -> x.heard(sort + 1));
        for (int sort = 0; sort <= 6; sort++) {
            eq("no choir", new DrinkingStones().heard(sort), -2);
        }
        eq("none any more", Told.after("").heard(1), -2);
    }

    private static void p36() {
        promise(36);
        says("MEASURES that are HEARD in a YEAR ahead of the last.");
        eq("none", Told.a().tapped(0), 0);
        eq("some", Told.a().tapped(1), 4);
        eq("the last but one", Told.with(12, 0, Told.stone(9, 1, 0) + Told.rain(4, 1, 11) + Told.tap(0, 60, 11)).tapped(11), 4);
        eq("of two taps", Told.with(1, 0, Told.stone(9, 1, 0) + Told.rain(4, 1, 0) + Told.tap(0, 1, 0).repeat(2)).tapped(0), 2);
        says("-2: there is none such.");
        noSuchYearAheadOfLast("tapped", DrinkingStones::tapped);
    }

    private static void p37() {
        promise(37);
        says("SORTS that are HEARD from a STONE, as bits (bit 1 .. 5).");
        eq("none", Told.a().tells(0), 0);
        eq("sort 1", Told.a().tells(1), 2);
        StringBuilder five = new StringBuilder(Told.stone(60, 1, 0).repeat(2));
        for (int sort = 1; sort <= 5; sort++) {
            five.append(Told.rain(1, sort, 0));
        }
        eq("four", Told.with(1, 0, five + Told.tap(1, 4, 0)).tells(1), 30);
        eq("all five", Told.with(1, 0, five + Told.tap(1, 5, 0)).tells(1), 62);
        eq("of that stone", Told.with(1, 0, five + Told.tap(1, 5, 0)).tells(0), 0);
        eq("not those of the last year", Told.with(1, 0, five + Told.tap(1, 5, 1)).tells(1), 0);
        says("-2: there is none such.");
        noSuchStone("tells", DrinkingStones::tells);
    }

    private static void p38() {
        promise(38);
        says("MEASURES that are lost (II) in a YEAR ahead of the last, and those in STONES on a WALL when it FALLS in it.");
        int[] lost = {0, 12, 41, 0};
        for (int y = 0; y < 4; y++) {
            eq("lost " + y, Told.a().lost(y), lost[y]);
        }
        eq("when it falls", Check.of(FALL).lost(0), 5);
        eq("when it has fallen", Check.of(FALL).lost(1), 3);
        eq("not again", Check.of(FALL).lost(2), 0);
        eq("not those tapped ahead of it", Check.of(Told.choir(1, 0, 0) + Told.wall(2, 1) + Told.stone(9, 1, 0) + Told.rain(5, 1, 0) + Told.tap(0, 2, 0)).lost(0), 3);
        eq("of a choir without stones", Check.of(Told.choir(1, 0, 0) + Told.rain(5, 1, 0)).lost(0), 0);
        says("-2: there is none such.");
        noSuchYearAheadOfLast("lost", DrinkingStones::lost);
    }

    private static void p39() {
        promise(39);
        says("MEASURES that go into a STONE in all (those that come on to it, too; let out, pressed out later or not).");
        eq("let out later", Told.a().drinks(1), 24);
        eq("none is let out", Told.a().drinks(2), 19);
        eq("its room", Told.a().drinks(0), 10);
        eq("none", Told.with(2, 0, Told.stone(9, 1, 0)).drinks(0), 0);
        eq("pressed out later", Told.with(2, 3, Told.stone(5, 1, 0) + Told.rain(5, 1, 0) + Told.rain(9, 1, 1)).drinks(0), 10);
        eq("come on", Told.with(1, 1, Told.stone(5, 1, 0) + Told.stone(60, 1, 0) + Told.rain(9, 1, 0)).drinks(1), 13);
        eq("fallen later", Check.of(FALL).drinks(0), 5);
        // 12 years of 8 rains told and 30 acts can't be more than 38 times its room
        DrinkingStones x = Told.with(1, 3, Told.stone(60, 4, 0) + Told.rain(20, 1, 0).repeat(8));
        for (int i = 0; i < 30; i++) {
            x.rains(20, 1, 0);
        }
        eq("as much as can be", x.drinks(0), 38 * 60);
        says("-2: there is none such.");
        noSuchStone("drinks", DrinkingStones::drinks);
    }

    private static void p40() {
        promise(40);
        says("The first YEAR in which water of a SORT is in a STONE.");
        eq("the first", Told.a().when(2, 1), 1);
        eq("the second", Told.a().when(0, 2), 2);
        eq("the last", Told.with(12, 0, Told.stone(9, 1, 0) + Told.rain(1, 5, 11)).when(0, 5), 12);
        says("NONE: in none;");
        eq("never", Told.a().when(1, 3), -1);
        eq("tapped in the year it came", Told.with(2, 0, Told.stone(9, 1, 0) + Told.rain(5, 1, 0) + Told.tap(0, 5, 0)).when(0, 1), -1);
        eq("fallen in the year it came", Check.of(FALL).when(0, 1), -1);
        eq("no room for it", Told.with(2, 0, Told.stone(5, 1, 0) + Told.rain(5, 1, 0) + Told.rain(5, 2, 0)).when(0, 2), -1);
        says("-2: there are none such.");
        noSuchStone("when", (o, s) -> o.when(s, 1));
        DrinkingStones x = Told.a();
        beyond("sort less one", 5, sort -> x.when(0, sort + 1));
    }

    private static void p41() {
        promise(41);
        says("In how many YEARS from 1 on a STONE has less than in the YEAR ahead.");
        eq("by its fall", Told.a().sinks(1), 1);
        eq("never", Told.a().sinks(2), 0);
        StringBuilder taps = new StringBuilder(Told.stone(60, 1, 0) + Told.rain(20, 1, 0));
        for (int y = 6; y <= 11; y++) {
            taps.append(Told.tap(0, 1, y));
        }
        eq("in six, the last too", Told.with(12, 0, taps.toString()).sinks(0), 6);
        eq("as much is not less", Told.with(2, 0, Told.stone(60, 1, 0) + Told.rain(4, 1, 0) + Told.rain(3, 1, 1) + Told.tap(0, 3, 1)).sinks(0), 0);
        eq("one less", Told.with(2, 0, Told.stone(60, 1, 0) + Told.rain(4, 1, 0) + Told.rain(3, 1, 1) + Told.tap(0, 4, 1)).sinks(0), 1);
        says("-2: there is none such.");
        noSuchStone("sinks", DrinkingStones::sinks);
    }

    private static void p42() {
        promise(42);
        says("How many STONES hold LAYERS just alike (SORTS and MEASURES) to those of a STONE in a YEAR, with it (empty ones are alike).");
        eq("empty ones", Told.a().alike(1, 0), 3);
        eq("two of three", Told.a().alike(2, 1), 2);
        eq("with it", Told.a().alike(1, 1), 1);
        eq("all six", Told.with(1, 0, Told.stone(9, 1, 0).repeat(6) + Told.rain(5, 1, 0)).alike(5, 1), 6);
        DrinkingStones x = Told.with(3, 0, Told.stone(9, 1, 0) + Told.stone(6, 1, 1) + Told.stone(3, 1, 0) + Told.stone(9, 1, 0) + Told.rain(3, 1, 0)
                + Told.rain(3, 2, 1) + Told.rain(3, 1, 2) + Told.tap(0, 3, 2) + Told.tap(3, 3, 1));
        eq("1 2 1 let out to 2 1, like the fourth", x.alike(0, 3), 2);
        eq("1 2 is not 2 1", x.alike(1, 3), 1);
        eq("1 is not 2", x.alike(2, 2), 1);
        eq("2 is not 1", x.alike(3, 2), 1);
        DrinkingStones fell = Check.of(Told.choir(1, 0, 0) + Told.wall(4, 1) + STRONG + Told.stone(9, 1, 0) + Told.stone(9, 1, 1) + Told.rain(5, 1, 0));
        eq("one that was alike and fell", fell.alike(1, 1), 1);
        eq("one that fell", fell.alike(0, 1), 1);
        DrinkingStones much = Told.with(1, 0, Told.stone(5, 1, 0) + Told.stone(6, 1, 0) + Told.rain(6, 1, 0));
        eq("of other measures", much.alike(0, 1), 1);
        DrinkingStones longer = Told.with(2, 0, Told.stone(3, 1, 0) + Told.stone(6, 1, 0) + Told.rain(3, 1, 0) + Told.rain(3, 2, 1));
        eq("of fewer layers", longer.alike(0, 2), 1);
        eq("of more layers", longer.alike(1, 2), 1);
        says("-2: there are none such.");
        noSuchStoneOrYear("alike", DrinkingStones::alike);
    }
}
