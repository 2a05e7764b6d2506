/** The terms I to VIII, sentence by sentence: each with its own tests at its bounds. */
public final class TermsTest {
    private static Says doc;
    private static final int MAX = Integer.MAX_VALUE;
    private static final int MIN = Integer.MIN_VALUE;
    private static final String HEAD = Told.choir(2, 0, 0);
    private static final String STRONG = Told.STRONG;

    public static void main(String[] args) throws Exception {
        doc = new Says();
        doc.section("Terms");
        lines();
        bounds();
        numbering();
        tokens();
        faultsByPlace();
        faults();
        slots();
        layers();
        lawsLost();
        lawsComingOn();
        lawOfPressing();
        fallenWalls();
        rains();
        taps();
        sinking();
        falling();
        save();
        seen();
        setsAlone();
        bungs();
        chance();
        draws();
        doc.end("TermsTest", 1);
    }

    private static void says(String words) {
        doc.says(words);
    }

    private static void eq(String call, long got, long want) {
        doc.eq(call, got, want);
    }

    private static void reads(String text, int lines) {
        DrinkingStones x = new DrinkingStones();
        Check.feed(x, text);
        eq("choir() of " + text, x.choir(), lines);
        eq("fault(0) of " + text, x.fault(0), 0);
        eq("fault(1) of " + text, x.fault(1), -1);
    }

    private static void fails(String text, int fault, int place) {
        DrinkingStones x = new DrinkingStones();
        Check.feed(x, text);
        eq("choir() of " + text, x.choir(), -4);
        eq("fault(0) of " + text, x.fault(0), fault);
        eq("fault(1) of " + text, x.fault(1), place);
    }

    /** A number at, below and above its bounds, and such as wrap around into them. */
    private static void bounded(String ahead, int low, int high, String behind, int lines) {
        reads(ahead + low + behind, lines);
        reads(ahead + high + behind, lines);
        reads(ahead + "000000000000000000000" + high + behind, lines);
        fails(ahead + (high + 1) + behind, 2, ahead.length());
        if (low > 0) {
            fails(ahead + (low - 1) + behind, 2, ahead.length());
        } else {
            fails(ahead + "-1" + behind, 1, ahead.length());
        }
        String[] wraps = {"256", "65536", "4294967296", "18446744073709551616", "1" + "0".repeat(64)};
        for (String wrap : wraps) {
            if (wrap.equals("256") && high >= 256) {
                continue;
            }
            String great = new java.math.BigInteger(wrap).add(java.math.BigInteger.valueOf(low)).toString();
            fails(ahead + great + behind, 2, ahead.length());
        }
    }

    // ---- I ----

    private static void lines() {
        says("I. CHOIR: {LINE ;}.");
        reads("", 0);
        reads(" \n", 0);
        reads(HEAD, 1);
        reads(Told.GREATEST, 24);
        fails(HEAD.substring(0, HEAD.length() - 1), 1, HEAD.length() - 1);
        fails(";", 1, 0);
        fails(HEAD + ";", 1, HEAD.length());
        fails(HEAD + Told.wall(1, 1).replace(";", ""), 1, HEAD.length() + Told.wall(1, 1).length() - 1);

        says("LINE: choir years N law N odds N | wall bears N gives N | stone room N wide N on W | rain N of S at N | tap G N at N.");
        String[] whole = {"choir years 1 law 1 odds 1 ;", "wall bears 1 gives 1 ;", "stone room 1 wide 1 on 0 ;", "rain 1 of 1 at 0 ;", "tap 0 1 at 0 ;"};
        String ahead = "";
        for (int line = 0; line < whole.length; line++) {
            reads(ahead + whole[line], line + 1);
            cutAndSwapped(ahead, whole[line]);
            ahead += whole[line];
        }

        says("choir is the first LINE and no other:");
        fails(STRONG, 1, 0);
        fails(HEAD + HEAD, 1, HEAD.length());
        fails(HEAD + STRONG + HEAD, 1, HEAD.length() + STRONG.length());
    }

    /** A line that ends ahead of any of its tokens, or has another one there, is at fault there. */
    private static void cutAndSwapped(String ahead, String line) {
        String[] tokens = line.split(" ");
        String upTo = ahead;
        for (int i = 0; i < tokens.length; i++) {
            if (i > 0) {
                fails(upTo, 1, upTo.length());
            }
            if (!tokens[i].equals(";")) {
                fails(upTo + ";", 1, upTo.length());
            }
            fails(upTo + "wider", 1, upTo.length());
            if (!Character.isDigit(tokens[i].charAt(0))) {
                fails(upTo + "1", 1, upTo.length());
            }
            for (int k = 0; Character.isLetter(tokens[i].charAt(0)) && k < tokens[i].length(); k++) {
                fails(upTo + tokens[i].substring(0, k) + "x" + tokens[i].substring(k + 1), 1, upTo.length());
                if (k > 0) {
                    fails(upTo + tokens[i].substring(0, k) + " 1 at 0;", 1, upTo.length());
                }
            }
            upTo += tokens[i] + " ";
        }
    }

    private static void bounds() {
        says("years 1 .. 12, law 0 .. 3, odds 0 .. 10.");
        bounded("choir years ", 1, 12, " law 0 odds 0;", 1);
        bounded("choir years 1 law ", 0, 3, " odds 0;", 1);
        bounded("choir years 1 law 0 odds ", 0, 10, ";", 1);
        says("wall: bears 0 .. 300, gives 1 .. 60.");
        bounded(HEAD + "wall bears ", 0, 300, " gives 1;", 2);
        bounded(HEAD + "wall bears 0 gives ", 1, 60, ";", 2);
        says("stone: room 1 .. 60, wide 1 .. 4, on a WALL told ahead.");
        String one = HEAD + STRONG;
        bounded(one + "stone room ", 1, 60, " wide 1 on 0;", 3);
        bounded(one + "stone room 1 wide ", 1, 4, " on 0;", 3);
        bounded(one + "stone room 1 wide 1 on ", 0, 0, ";", 3);
        bounded(one + STRONG + STRONG + "stone room 1 wide 1 on ", 0, 2, ";", 5);
        String early = HEAD + "stone room 1 wide 1 on ";
        fails(early + "0;" + STRONG, 2, early.length());
        says("rain: 1 .. 20, of a SORT 1 .. 5, at 0 .. 11.");
        bounded(HEAD + "rain ", 1, 20, " of 1 at 0;", 2);
        bounded(HEAD + "rain 1 of ", 1, 5, " at 0;", 2);
        bounded(HEAD + "rain 1 of 1 at ", 0, 11, ";", 2);
        says("tap: a STONE told ahead, 1 .. 60, at 0 .. 11.");
        String with = one + Told.stone(1, 1, 0);
        bounded(with + "tap ", 0, 0, " 1 at 0;", 4);
        bounded(one + Told.stone(1, 1, 0).repeat(6) + "tap ", 0, 5, " 1 at 0;", 9);
        bounded(with + "tap 0 ", 1, 60, " at 0;", 4);
        bounded(with + "tap 0 1 at ", 0, 11, ";", 4);
        String soon = one + "tap ";
        fails(soon + "0 1 at 0;" + Told.stone(1, 1, 0), 2, soon.length());
        fails(with + "tap 1 1 at 0;" + Told.stone(1, 1, 0), 2, with.length() + 4);
    }

    private static void numbering() {
        says("WALLS 0 .. 2, STONES 0 .. 5, RAINS 0 .. 7, TAPS 0 .. 5 are numbered as they stand.");
        StringBuilder mixed = new StringBuilder(Told.choir(1, 0, 0));
        for (int i = 0; i < 3; i++) {
            mixed.append(Told.rain(i + 1, 1, 0)).append(Told.wall(i, 60)).append(Told.stone(i + 1, 1, i)).append(Told.stone(i + 11, 1, 0));
        }
        for (int i = 3; i < 8; i++) {
            mixed.append(Told.rain(i + 1, 1, 0));
        }
        for (int i = 0; i < 6; i++) {
            mixed.append(Told.tap(i, 1, 11));
        }
        DrinkingStones x = Check.of(mixed.toString());
        for (int i = 0; i < 3; i++) {
            eq("bears of wall " + i, x.wall(i, 0), i);
            eq("room of stone " + 2 * i, x.stone(2 * i, 0), i + 1);
            eq("wall of stone " + 2 * i, x.stone(2 * i, 2), i);
            eq("room of stone " + (2 * i + 1), x.stone(2 * i + 1, 0), i + 11);
        }
        for (int i = 0; i < 8; i++) {
            eq("rain " + i, x.rain(i, 0), i + 1);
        }
        eq("taps", x.count(6), 6);
        eq("wall 3", x.wall(3, 0), -2);
        eq("stone 6", x.stone(6, 0), -2);
        eq("rain 8", x.rain(8, 0), -2);
        // the tap that is needed is the last of six
        DrinkingStones y = Check.of(Told.choir(1, 0, 0) + Told.wall(4, 1) + Told.stone(9, 1, 0) + Told.rain(5, 1, 0)
                + Told.tap(0, 1, 1).repeat(5) + Told.tap(0, 1, 0));
        eq("tap 5", y.needed(), 5);
        says("YEARS 0 .. years.");
        for (int years : new int[] {1, 12}) {
            DrinkingStones z = Check.of(Told.choir(years, 0, 0) + STRONG + Told.stone(9, 1, 0) + Told.rain(5, 1, 0));
            eq("year 0", z.has(0, 0), 0);
            eq("year " + years, z.has(0, years), 5);
            eq("year " + (years + 1), z.has(0, years + 1), -2);
            eq("year -1", z.has(0, -1), -2);
        }
    }

    private static void tokens() {
        says("TOKENS, blanks (32, 10) aside, the longest: words (a .. z), numbers (digits), the sign ; .");
        reads("\n \n choir\nyears 1\n\nlaw 0 odds  0 \n;\n", 1);
        reads("choir years1law2odds3;", 1);
        reads("choir years 12law 2odds 3;wall bears1gives2;", 2);
        // the longest: a word or a number is not cut where its begin could stand
        fails("choiryears 1 law 0 odds 0;", 1, 0);
        fails("choir years 1law0odds0;walls bears 1 gives 1;", 1, 23);
        fails("choir years 13 law 0 odds 0;", 2, 12);
        fails("choir years 1 2 law 0 odds 0;", 1, 14);
        // the bytes next to a .. z and 0 .. 9 are of no word, of no number
        fails("choira", 1, 0);
        fails("choirz", 1, 0);
        fails("choir`", 1, 5);
        fails("choir{", 1, 5);
        fails("choir years 19", 2, 12);
        fails("choir years 10/", 1, 14);
        fails("choir years 10:", 1, 14);
        fails("choir years 1 law 0 odds 0<", 1, 26);
        for (int strange : new int[] {0, 9, 11, 12, 13, 31, 33, 45, 127, 128, 160, 255}) {
            fails("choir" + (char) strange + "years 1 law 0 odds 0;", 1, 5);
        }
        // what is 128 more than a letter, a digit, a blank or the sign is none of them
        fails("\u00e3hoir years 1 law 0 odds 0;", 1, 0);
        fails("choir years \u00b1 law 0 odds 0;", 1, 12);
        fails("choir\u00a0years 1 law 0 odds 0;", 1, 5);
        fails("choir years 1 law 0 odds 0\u00bb", 1, 26);
        fails("Choir years 1 law 0 odds 0;", 1, 0);
    }

    private static void faultsByPlace() {
        says("FAULTS, the first by its place (a TOKEN's first byte; the end's), of one place the least:");
        fails("choir years 13 law 4 odds 11;", 2, 12);
        fails("choir years 1 law 4 # 11;", 2, 18);
        fails("choir years 1 law # odds 11;", 1, 18);
        fails("choir  \nyears  00013", 2, 15);
        fails("choir years 1 law 0 odds 0;hello", 1, 27);
        // the end's place is behind all bytes, blanks too
        fails("choir", 1, 5);
        fails("choir \n ", 1, 8);
        fails("choir years 1 law 0 odds 0" + " ".repeat(574), 1, 600);
        fails("choir years 1 law 0 odds " + "1".repeat(575), 2, 25);
        reads("choir years 1 law 0 odds " + "0".repeat(573) + "7;", 1);
        // a number far out of all bounds where none can stand, a fourth wall where no line begins
        fails("choir 999", 1, 6);
        String three = HEAD + STRONG.repeat(3);
        fails(three + "rain wall", 1, three.length() + 5);
        fails(three + "choir", 1, three.length());
    }

    private static void faults() {
        says("1 a TOKEN that is none, or can't stand there (choir behind the first LINE, another word ahead of it).");
        fails("#", 1, 0);
        fails(HEAD + "#", 1, HEAD.length());
        fails(HEAD + HEAD, 1, HEAD.length());
        fails(HEAD + "choirs", 1, HEAD.length());
        for (String word : new String[] {"wall", "stone", "rain", "tap", "years", "x"}) {
            fails(word + " 1", 1, 0);
            fails(" " + word, 1, 1);
        }
        for (String word : new String[] {"years", "law", "odds", "bears", "gives", "room", "wide", "on", "of", "at", "w", "walls"}) {
            fails(HEAD + word, 1, HEAD.length());
        }
        fails("1", 1, 0);
        fails(HEAD + "1", 1, HEAD.length());
        says("2 a number out of its bounds.");
        fails("choir years 0", 2, 12);
        fails(HEAD + "rain 21 of 1 at 0;", 2, HEAD.length() + 5);
        says("3 a 4th wall, 7th stone, 9th rain, 7th tap, at its word.");
        String base = HEAD + STRONG + Told.stone(1, 1, 0);
        String[][] most = {{STRONG, "2"}, {Told.stone(1, 1, 0), "5"}, {Told.rain(1, 1, 0), "8"}, {Told.tap(0, 1, 0), "6"}};
        for (String[] one : most) {
            int more = Integer.parseInt(one[1]);
            String full = base + one[0].repeat(more);
            reads(full, 3 + more);
            fails(full + one[0], 3, full.length());
            fails(full + " " + one[0].substring(0, one[0].indexOf(' ')), 3, full.length() + 1);
            fails(full + one[0].replaceAll("[0-9]+", "999"), 3, full.length());
            fails(full + one[0].replaceAll(" .*", " #"), 3, full.length());
        }
    }

    private static void slots() {
        says("SLOTS 0 .. 3 have rows of numbers of 1, 2, 4 or 8 bytes (WIDTH 0 .. 3), at most 60, or nothing.");
        DrinkingStones x = Check.of(Told.A);
        for (int slot = 0; slot <= 3; slot++) {
            eq("nothing in " + slot, x.write(slot, 0, 0), -6);
            eq("row of " + slot, x.row(slot, slot, 60), 0);
            eq("number 59 of " + slot, x.write(slot, 59, 0), 0);
            eq("number 60 of " + slot, x.write(slot, 60, 0), -7);
            // one more than all that so many bytes tell is 0 again; half of it is not
            long round = slot == 3 ? 0 : 1L << (8 << slot);
            x.write(slot, 2, round);
            eq("all of width " + slot, x.rooms(slot, 0), 60);
            x.write(slot, 2, 1L << ((8 << slot) - 1));
            eq("half of width " + slot, x.rooms(slot, 0), -2);
            x.write(slot, 2, round - 1);
            eq("all but one of width " + slot, x.rooms(slot, 0), -2);
        }
        eq("row of slot 4", x.row(4, 0, 1), -2);
        eq("row of slot -1", x.row(-1, 0, 1), -2);
        eq("61 numbers", x.row(0, 0, 61), -2);
        says("-2 (-1,000) is asked ahead of -5, -6.");
        DrinkingStones y = Check.of(Told.A);
        for (int i = 0; i < 30; i++) {
            y.rains(1, 1, 3);
        }
        eq("rains when full", y.rains(21, 1, 3), -2);
        eq("taps when full", y.taps(0, 1, 4), -2);
        eq("rate with acts", y.rate(0, 301), -2);
        eq("rooms of no stone, nothing", y.rooms(0, 3), -2);
        eq("gets of no stone", y.gets(0, 3, 0, 0), -1000);
        eq("paste from nothing to no slot", y.paste(0, 0, 4, 0, 0), -2);
        eq("paste from no slot to nothing", y.paste(4, 0, 0, 0, 0), -2);
        DrinkingStones none = new DrinkingStones();
        eq("undo, no choir", none.undo(), -2);
        eq("laws, no choir, nothing", none.laws(0), -2);
    }

    // ---- II ----

    private static void layers() {
        says("II. A STONE has LAYERS of water, the oldest lowest: each of a SORT, so many MEASURES.");
        DrinkingStones x = Told.with(2, 0, Told.stone(20, 1, 0) + Told.rain(3, 5, 0) + Told.rain(4, 2, 1));
        eq("layers", x.layers(0, 2), 2);
        eq("oldest", x.layer(0, 2, 0, 0), 5);
        eq("of it", x.layer(0, 2, 0, 1), 3);
        eq("newest", x.layer(0, 2, 1, 0), 2);
        eq("of it", x.layer(0, 2, 1, 1), 4);
        says("It is empty in YEAR 0.");
        eq("has", x.has(0, 0), 0);
        eq("layers", x.layers(0, 0), 0);
        says("It DRINKS so many MEASURES of a SORT: as far as it has room, as its top LAYER (one with that which was, if that is of the SORT);");
        int[][] rooms = {{6, 5, 0}, {5, 5, 0}, {4, 4, 1}, {1, 1, 4}};
        for (int[] one : rooms) {
            DrinkingStones y = Told.with(1, 0, Told.stone(one[0], 1, 0) + Told.rain(5, 1, 0));
            eq("5 into room " + one[0], y.has(0, 1), one[1]);
            eq("lost by room " + one[0], y.lost(0), one[2]);
        }
        DrinkingStones same = Told.with(2, 0, Told.stone(20, 1, 0) + Told.rain(3, 1, 0) + Told.rain(4, 1, 1));
        eq("one layer", same.layers(0, 2), 1);
        eq("of both", same.layer(0, 2, 0, 1), 7);
        DrinkingStones between = Told.with(2, 0, Told.stone(20, 1, 0) + Told.rain(3, 1, 0) + Told.rain(4, 2, 0) + Told.rain(5, 1, 1));
        eq("not one with a lower one", between.layers(0, 2), 3);
        DrinkingStones full = Told.with(2, 0, Told.stone(3, 1, 0) + Told.rain(3, 1, 0) + Told.rain(4, 2, 1));
        eq("no layer of nothing", full.layers(0, 2), 1);
        eq("nor on top", full.top(0, 2), 1);
        // as many layers as rains can bring: told ones and acts, by turns of two sorts
        StringBuilder eight = new StringBuilder(Told.stone(60, 1, 0));
        for (int i = 0; i < 8; i++) {
            eight.append(Told.rain(1, 1 + i % 2, 0));
        }
        DrinkingStones many = Told.with(1, 0, eight.toString());
        for (int i = 0; i < 30; i++) {
            many.rains(1, 1 + i % 2, 0);
        }
        eq("38 layers", many.layers(0, 1), 38);
        eq("the last of them", many.layer(0, 1, 37, 0), 2);
        eq("one behind", many.layer(0, 1, 38, 0), -1);
    }

    private static void lawsLost() {
        says("what is more by LAW, 0: is lost.");
        DrinkingStones x = Told.with(1, 0, Told.stone(2, 1, 0) + Told.stone(60, 1, 0) + Told.rain(5, 1, 0));
        eq("lost", x.lost(0), 3);
        eq("the next one", x.has(1, 1), 5);
        eq("drinks", x.drinks(0), 2);
    }

    private static void lawsComingOn() {
        says("1: is DRUNK by the next STONE (of a greater number) on its WALL; behind the last it is lost.");
        DrinkingStones x = Told.with(1, 1, Told.stone(2, 1, 0) + Told.stone(60, 1, 1) + Told.stone(60, 1, 0) + Told.rain(5, 1, 0));
        eq("not on another wall", x.has(1, 1), 5);
        eq("the next on its wall", x.has(2, 1), 8);
        eq("lost", x.lost(0), 0);
        DrinkingStones last = Told.with(1, 1, Told.stone(60, 1, 0) + Told.stone(2, 1, 0) + Told.stone(60, 1, 1) + Told.rain(5, 1, 0));
        eq("none of a lesser number", last.has(0, 1), 5);
        eq("behind the last", last.lost(0), 3);
        eq("not on another wall", last.has(2, 1), 5);
        DrinkingStones chain = Told.with(1, 1, Told.stone(1, 1, 0) + Told.stone(1, 1, 0) + Told.stone(8, 1, 0) + Told.rain(5, 1, 0));
        eq("on and on", chain.has(2, 1), 8);
        eq("as far as there is room", chain.lost(0), 5);
        eq("those that come on are drunk", chain.drinks(2), 8);
        says("2: by the next STONE on any WALL; likewise.");
        DrinkingStones any = Told.with(1, 2, Told.stone(2, 1, 0) + Told.stone(60, 1, 1) + Told.stone(60, 1, 0) + Told.rain(5, 1, 0));
        eq("the next on any wall", any.has(1, 1), 8);
        eq("not the one behind it", any.has(2, 1), 5);
        DrinkingStones end = Told.with(1, 2, Told.stone(60, 1, 0) + Told.stone(60, 1, 1) + Told.stone(2, 1, 0) + Told.rain(5, 1, 0));
        eq("none of a lesser number", end.all(1), 12);
        eq("behind the last", end.lost(0), 3);
        DrinkingStones over = Told.with(1, 2, Told.stone(1, 1, 0) + Told.stone(1, 1, 1) + Told.stone(8, 1, 0) + Told.rain(5, 1, 0));
        eq("on and on", over.has(2, 1), 8);
        eq("as far as there is room", over.lost(0), 5);
    }

    private static void lawOfPressing() {
        says("3: what is more than all its room is lost; for the rest as much is pressed out from the lowest up (and lost, too) as it has no room for, then it DRINKS that.");
        int[][] cases = {{2, 3, 2, 0}, {3, 2, 3, 1}, {4, 1, 4, 2}, {5, 0, 5, 3}, {6, 0, 5, 4}, {20, 0, 5, 18}};
        for (int[] one : cases) {
            DrinkingStones x = Told.with(2, 3, Told.stone(5, 1, 0) + Told.stone(60, 1, 0) + Told.rain(3, 1, 0) + Told.rain(one[0], 2, 1));
            eq("old by a rain of " + one[0], x.sort(0, 2, 1), one[1]);
            eq("new by a rain of " + one[0], x.sort(0, 2, 2), one[2]);
            eq("lost by a rain of " + one[0], x.lost(1), one[3]);
            eq("drinks by a rain of " + one[0], x.drinks(0), 3 + one[2]);
            eq("none comes on by a rain of " + one[0], x.has(1, 2), 3 + one[0]);
        }
        DrinkingStones more = Told.with(1, 3, Told.stone(5, 1, 0) + Told.rain(6, 1, 0));
        eq("more than all its room", more.lost(0), 1);
        eq("the rest of it", more.has(0, 1), 5);
        DrinkingStones same = Told.with(2, 3, Told.stone(5, 1, 0) + Told.rain(3, 1, 0) + Told.rain(4, 1, 1));
        eq("of its own sort", same.layers(0, 2), 1);
        eq("pressed out", same.lost(1), 2);
        eq("goes in", same.drinks(0), 7);
        DrinkingStones low = Told.with(2, 3, Told.stone(9, 1, 0) + Told.rain(2, 1, 0) + Told.rain(3, 2, 0) + Told.rain(4, 3, 0) + Told.rain(3, 4, 1));
        eq("from the lowest up", low.under(0, 2), 2);
        eq("of the next", low.layer(0, 2, 0, 1), 2);
        eq("three are left", low.layers(0, 2), 3);
    }

    private static void fallenWalls() {
        says("A STONE on a WALL that fell DRINKS nothing: it is lost (what comes on to it, too).");
        DrinkingStones x = Check.of(Told.choir(2, 2, 0) + STRONG + Told.wall(4, 1) + Told.stone(5, 1, 0) + Told.stone(9, 1, 1)
                + Told.stone(60, 1, 0) + Told.rain(5, 1, 0) + Told.rain(3, 2, 1));
        eq("it fell", x.falls(1), 1);
        eq("drinks nothing", x.has(1, 2), 0);
        eq("drank ahead of it", x.drinks(1), 5);
        eq("its own and what comes on", x.lost(1), 6);
        eq("none comes on behind it", x.has(2, 2), 8);
        DrinkingStones y = Check.of(Told.choir(2, 3, 0) + Told.wall(4, 1) + Told.stone(9, 1, 0) + Told.rain(5, 1, 0) + Told.rain(3, 2, 1));
        eq("by law 3", y.lost(1), 3);
        eq("by law 3", y.has(0, 2), 0);
    }

    // ---- III ----

    private static void rains() {
        says("III. In each YEAR ahead of the last first RAINS of it come (told ones, then those of acts, in order): of each one STONE by STONE each DRINKS as many MEASURES of its SORT as the RAIN has, times wide.");
        DrinkingStones x = Told.with(2, 0, Told.stone(60, 1, 0) + Told.rain(5, 1, 1) + Told.rain(7, 2, 2) + Told.rain(7, 2, 11));
        eq("not yet", x.has(0, 1), 0);
        eq("ahead of the last", x.has(0, 2), 5);
        DrinkingStones last = Told.with(12, 0, Told.stone(60, 1, 0) + Told.rain(5, 1, 11));
        eq("year 11 of twelve", last.has(0, 12), 5);
        eq("year 11 of twelve", last.has(0, 11), 0);
        DrinkingStones order = Told.with(1, 0, Told.stone(60, 1, 0) + Told.rain(1, 2, 0) + Told.rain(1, 1, 0));
        order.rains(1, 4, 0);
        order.rains(1, 3, 0);
        int[] sorts = {2, 1, 4, 3};
        for (int i = 0; i < 4; i++) {
            eq("in order " + i, order.layer(0, 1, i, 0), sorts[i]);
        }
        DrinkingStones wide = Told.with(1, 0, Told.stone(60, 4, 0) + Told.stone(60, 3, 0) + Told.stone(60, 1, 0) + Told.rain(15, 1, 0));
        eq("times 4", wide.has(0, 1), 60);
        eq("times 3", wide.has(1, 1), 45);
        eq("times 1", wide.has(2, 1), 15);
        DrinkingStones most = Told.with(1, 0, Told.stone(60, 4, 0) + Told.rain(20, 1, 0));
        eq("80 into 60", most.has(0, 1), 60);
        eq("20 of 80", most.lost(0), 20);
        // what comes on is wide by the stone it fell on; rain by rain
        DrinkingStones on = Told.with(1, 1, Told.stone(4, 2, 0) + Told.stone(60, 1, 0) + Told.rain(3, 1, 0) + Told.rain(3, 2, 0));
        eq("rain by rain", on.layers(1, 1), 2);
        eq("2 of 6 come on, and 3", on.layer(1, 1, 0, 1), 5);
        eq("all 6 come on, and 3", on.layer(1, 1, 1, 1), 9);
    }

    private static void taps() {
        says("Then TAPS of it (likewise): a STONE lets out so many MEASURES from the lowest up, as far as it has them: they are HEARD.");
        int[][] cases = {{4, 4, 1}, {5, 5, 0}, {6, 5, 0}, {60, 5, 0}};
        for (int[] one : cases) {
            DrinkingStones x = Told.with(1, 0, Told.stone(60, 1, 0) + Told.rain(3, 1, 0) + Told.rain(2, 2, 0) + Told.tap(0, one[0], 0));
            eq("heard by a tap of " + one[0], x.tapped(0), one[1]);
            eq("left by a tap of " + one[0], x.has(0, 1), one[2]);
            eq("lowest first by a tap of " + one[0], x.heard(1), 3);
            eq("lost by a tap of " + one[0], x.lost(0), 0);
        }
        DrinkingStones layer = Told.with(1, 0, Told.stone(60, 1, 0) + Told.rain(3, 1, 0) + Told.rain(2, 2, 0) + Told.tap(0, 3, 0));
        eq("a whole layer", layer.layers(0, 1), 1);
        eq("the next is lowest", layer.under(0, 1), 2);
        DrinkingStones x = Told.with(2, 0, Told.stone(60, 1, 0) + Told.rain(3, 1, 0) + Told.rain(2, 2, 1) + Told.tap(0, 1, 2) + Told.tap(0, 2, 0));
        eq("of its year", x.tapped(0), 2);
        eq("of the last year", x.heard(1), 2);
        // told ones first: the act's tap hears what they leave
        eq("then those of acts", x.taps(0, 60, 0), 3);
        eq("ahead of rains of the next year", x.has(0, 2), 2);
        eq("of an empty stone", x.taps(0, 1, 0), 3);
        DrinkingStones fell = Check.of(Told.choir(2, 0, 0) + Told.wall(4, 1) + Told.stone(9, 1, 0) + Told.rain(5, 1, 0) + Told.tap(0, 9, 1));
        eq("of a stone on a wall that fell", fell.tapped(1), 0);
    }

    private static void sinking() {
        says("Then WALLS: LOAD is what all STONES on it have together; if it is more than the WALL bears, it SINKS by a fifth of what it is more (cut), and 1;");
        int[][] cases = {{11, 0}, {10, 0}, {9, 1}, {6, 1}, {5, 2}, {1, 2}, {0, 3}};
        for (int[] one : cases) {
            DrinkingStones x = Check.of(Told.choir(2, 0, 0) + Told.wall(one[0], 60) + Told.wall(0, 60) + Told.stone(60, 1, 0) + Told.stone(60, 1, 0)
                    + Told.rain(5, 1, 0));
            eq("10 on one that bears " + one[0], x.sunk(0, 1), one[1]);
            eq("again on one that bears " + one[0], x.sunk(0, 2), 2 * one[1]);
            eq("no load on one that bears 0", x.sunk(1, 2), 0);
        }
        DrinkingStones tap = Check.of(Told.choir(1, 0, 0) + Told.wall(4, 1) + Told.stone(60, 1, 0) + Told.rain(5, 1, 0) + Told.tap(0, 1, 0));
        eq("when taps have been", tap.stands(1), 1);
        DrinkingStones most = Check.of(Told.choir(1, 0, 0) + Told.wall(0, 60) + Told.stone(60, 4, 0).repeat(6) + Told.rain(20, 1, 0));
        eq("all stones, full", most.sunk(0, 1), 73);
        eq("it falls", most.stands(1), 0);
    }

    private static void falling() {
        says("when it has SUNK as much as it gives, or more, it FALLS: its STONES are empty then, and for ever.");
        // 11 more on it: sunk by 3 in each year
        String text = Told.choir(4, 0, 0) + "wall bears 0 gives G;" + Told.stone(11, 1, 0) + Told.rain(11, 1, 0) + Told.rain(2, 1, 3);
        int[][] cases = {{1, 1}, {2, 1}, {3, 1}, {4, 2}, {6, 2}, {7, 3}, {9, 3}, {10, 4}, {12, 4}, {13, -1}};
        for (int[] one : cases) {
            DrinkingStones x = Check.of(text.replace("G", "" + one[0]));
            eq("gives " + one[0], x.falls(0), one[1]);
            eq("for ever, gives " + one[0], x.has(0, 4), one[1] < 0 ? 11 : 0);
            if (one[1] > 0) {
                eq("empty then, gives " + one[0], x.has(0, one[1]), 0);
                eq("ahead of it, gives " + one[0], x.has(0, one[1] - 1), one[1] == 1 ? 0 : 11);
                eq("sinks no more, gives " + one[0], x.sunk(0, 4), 3 * one[1]);
            }
        }
        says("So it is in the next YEAR, ahead of RAINS of it.");
        DrinkingStones x = Told.with(3, 0, Told.stone(60, 1, 0) + Told.rain(1, 1, 0) + Told.rain(2, 1, 1) + Told.rain(4, 1, 2));
        for (int year = 0; year <= 3; year++) {
            eq("in year " + year, x.has(0, year), (1 << year) - 1);
        }
    }

    // ---- IV to VIII ----

    private static void save() {
        says("IV. SAVE: a set of STONES lets out all in one YEAR, ahead of RAINS of it (neither HEARD nor lost; all else as now).");
        // 4 and 4 more are too much; 4 let out ahead of the second rain are enough
        DrinkingStones x = Check.of(Told.choir(2, 0, 0) + Told.wall(7, 1) + Told.stone(60, 1, 0) + Told.rain(4, 1, 0) + Told.rain(4, 1, 1));
        eq("ahead of rains of year 0", x.save(0), -1);
        eq("ahead of rains of year 1", x.save(1), 1);
        eq("too much by itself", Check.of(Told.choir(2, 0, 0) + Told.wall(7, 1) + Told.stone(60, 1, 0) + Told.rain(4, 1, 0) + Told.rain(8, 1, 1)).save(1), -1);
        eq("not heard", x.heard(1), 0);
        eq("lost as now", x.lost(1), 8);
        eq("falls as now", x.falls(0), 2);
        // a tap of that year still lets out; acts stay
        DrinkingStones acts = Check.of(Told.choir(2, 0, 0) + Told.wall(7, 1) + Told.stone(60, 1, 0) + Told.rain(4, 1, 0) + Told.rain(8, 1, 1));
        acts.taps(0, 1, 1);
        eq("with a tap of an act", acts.save(1), 1);
        // nothing that it let out is there to be tapped: 4 are heard in year 1, and 9 are too much in year 2
        DrinkingStones empty = Check.of(Told.choir(3, 0, 0) + Told.wall(7, 1) + Told.stone(60, 1, 0) + Told.rain(4, 1, 0) + Told.rain(4, 2, 1) + Told.rain(8, 1, 2)
                + Told.tap(0, 60, 1));
        eq("let out for good", empty.save(1), -1);
    }

    private static void seen() {
        says("V. SEEN: a SLOT's row, three numbers each: a STONE, a YEAR, MEASURES in it: room of one STONE was otherwise (1 .. 60).");
        DrinkingStones x = Told.with(1, 1, Told.stone(9, 1, 0) + Told.stone(60, 1, 0) + Told.rain(20, 1, 0));
        x.row(0, 0, 0);
        eq("all rooms", x.rooms(0, 0), 60);
        eq("from 1", x.least(0, 0), 1);
        eq("to 60", x.greatest(0, 0), 60);
        // what the other stone had tells how much came on to it: 13 of 20
        Check.row(x, 1, 1, 1, 33);
        eq("by another stone", x.rooms(1, 0), 1);
        eq("by another stone", x.least(1, 0), 7);
        Check.row(x, 2, 1, 1, 33, 0, 1, 7);
        eq("by both", x.least(2, 0), 7);
        Check.row(x, 2, 1, 1, 33, 0, 1, 8);
        eq("by neither", x.rooms(2, 0), 0);
        // the room told is one of these
        Check.row(x, 3, 0, 1, 9);
        eq("as told", x.least(3, 0), 9);
        eq("as told", x.rooms(3, 0), 1);
        Check.row(x, 3, 0, 1, 20);
        eq("20 and more", x.rooms(3, 0), 41);
    }

    private static void setsAlone() {
        says("VI. A set of STONES alone DRINKS (what others would is lost): it is worth what all have in the last YEAR.");
        DrinkingStones x = Told.with(1, 2, Told.stone(2, 1, 0) + Told.stone(60, 1, 1) + Told.rain(5, 1, 0));
        eq("none", x.worth(0), 0);
        eq("the first", x.worth(1), 2);
        eq("the second: none comes on", x.worth(2), 5);
        eq("both", x.worth(3), 10);
        DrinkingStones fell = Check.of(Told.choir(1, 0, 0) + Told.wall(9, 1) + Told.stone(9, 1, 0).repeat(2) + Told.rain(5, 1, 0));
        eq("one stands", fell.worth(1), 5);
        eq("two fall", fell.worth(3), 0);
        says("STONES come in an order, each has what the set is worth more by it (below 0, too); each order is as likely: the mean.");
        eq("half of 2 and of 5", x.share(0, 0), 7);
        eq("half", x.share(0, 1), 2);
        eq("half of 5 and of 8", x.share(1, 0), 13);
        eq("5 first, 5 less then", fell.share(0, 0), 0);
        DrinkingStones below = Check.of(Told.choir(1, 0, 0) + Told.wall(9, 1) + Told.stone(2, 1, 0) + Told.stone(8, 1, 0) + Told.rain(9, 1, 0));
        eq("2 first, 8 less then", below.share(0, 0), -3);
        eq("8 first, 2 less then", below.share(1, 0), 3);
        DrinkingStones one = Told.with(1, 0, Told.stone(2, 1, 0) + Told.rain(5, 1, 0));
        eq("one order", one.share(0, 0), 2);
    }

    private static void bungs() {
        says("VII. Each of two STONES is bunged (it DRINKS nothing: what it would goes on by LAW 1, 2, else is lost), or not.");
        int[] other = {5, 5, 10, 5};
        for (int law = 0; law <= 3; law++) {
            DrinkingStones x = Told.with(1, law, Told.stone(9, 1, 0) + Told.stone(60, 1, 1) + Told.rain(5, 1, 0));
            eq("on another wall by law " + law, x.gets(1, 0, 0, 1), other[law]);
            DrinkingStones y = Told.with(1, law, Told.stone(9, 1, 0) + Told.stone(60, 1, 0) + Told.rain(5, 1, 0));
            eq("on its wall by law " + law, y.gets(1, 0, 0, 1), law == 1 ? 10 : other[law]);
            eq("it drinks nothing by law " + law, x.gets(0, 1, 1, 0), 7);
            eq("nor the other by law " + law, x.gets(1, 0, 1, 1), 7);
        }
        says("It GETS the MEASURES that it has in the last YEAR, 7 more if it is bunged, 10 less if its WALL fell.");
        DrinkingStones x = Check.of(Told.choir(1, 0, 0) + Told.wall(9, 1) + Told.wall(0, 1) + Told.stone(9, 1, 0) + Told.stone(9, 1, 0)
                + Told.stone(9, 1, 1) + Told.rain(5, 1, 0));
        eq("neither: it fell", x.gets(0, 1, 0, 0), -10);
        eq("bunged: it stands", x.gets(0, 1, 1, 0), 7);
        eq("the other: it stands", x.gets(0, 1, 0, 1), 5);
        eq("bunged, and its wall fell by others", x.gets(0, 2, 1, 0), 7);
        DrinkingStones three = Check.of(Told.choir(1, 0, 0) + Told.wall(9, 1) + Told.stone(9, 1, 0).repeat(3) + Told.rain(5, 1, 0));
        eq("bunged, and its wall fell", three.gets(0, 1, 1, 0), -3);
        says("REST: neither GETS more by the other choice alone.");
        eq("7 are more than 5", x.rests(0, 1), 8);
        DrinkingStones either = Check.of(Told.choir(1, 0, 0) + Told.wall(9, 1) + Told.stone(9, 1, 0).repeat(2) + Told.rain(8, 1, 0));
        eq("one of the two", either.rests(0, 1), 6);
        DrinkingStones even = Told.with(1, 0, Told.stone(9, 1, 0) + Told.stone(9, 1, 0) + Told.rain(7, 1, 0));
        eq("as much by the other is rest", even.rests(0, 1), 15);
        DrinkingStones less = Told.with(1, 0, Told.stone(9, 1, 0) + Told.stone(9, 1, 0) + Told.rain(6, 1, 0));
        eq("7 are more than 6", less.rests(0, 1), 8);
        DrinkingStones more = Told.with(1, 0, Told.stone(9, 1, 0) + Told.stone(9, 1, 0) + Told.rain(8, 1, 0));
        eq("8 are more than 7", more.rests(0, 1), 1);
        DrinkingStones first = Told.with(1, 0, Told.stone(6, 1, 0) + Told.stone(9, 1, 0) + Told.rain(8, 1, 0));
        eq("the first alone", first.rests(0, 1), 2);
        eq("the other alone", first.rests(1, 0), 4);
    }

    private static void chance() {
        says("VIII. CHANCE: each RAIN told (those of acts are sure) comes with odds in ten, by itself (also one of a YEAR there is not, to no end).");
        String text = Told.wall(4, 1) + Told.stone(60, 1, 0) + Told.rain(5, 1, 0) + Told.rain(5, 1, 1) + Told.rain(5, 1, 11);
        int[][] cases = {{0, 1, 1}, {1, 9, 10}, {3, 7, 10}, {5, 1, 2}, {9, 1, 10}, {10, 0, 1}};
        for (int[] one : cases) {
            DrinkingStones x = Check.of(Told.choir(1, 0, one[0]) + text);
            eq("above by odds " + one[0], x.chance(0, 0), one[1]);
            eq("below by odds " + one[0], x.chance(0, 1), one[2]);
        }
        DrinkingStones two = Check.of(Told.choir(1, 0, 3) + Told.wall(4, 1) + Told.stone(60, 1, 0) + Told.rain(3, 1, 0).repeat(2));
        eq("by itself", two.chance(0, 0), 91);
        eq("by itself", two.chance(0, 1), 100);
        two.rains(3, 1, 0);
        eq("acts are sure", two.chance(0, 0), 49);
        two.rains(3, 1, 0);
        eq("acts are sure", two.chance(0, 0), 0);
        says("FRACTIONS are told in lowest terms (0 / 1).");
        eq("0 / 1", two.chance(0, 1), 1);
        DrinkingStones none = Check.of(Told.choir(1, 0, 10) + STRONG + Told.stone(9, 1, 0));
        eq("0 / 1", none.mean(0), 0);
        eq("0 / 1", none.mean(1), 1);
        eq("0 / 1", none.share(0, 0), 0);
        eq("0 / 1", none.share(0, 1), 1);
        eq("1 / 1", none.chance(0, 0), 1);
        eq("1 / 1", none.chance(0, 1), 1);
        DrinkingStones half = Check.of(Told.choir(1, 0, 5) + STRONG + Told.stone(60, 1, 0) + Told.rain(4, 1, 0).repeat(8));
        eq("8 times 2", half.mean(0), 16);
        eq("8 times 2", half.mean(1), 1);
        DrinkingStones seven = Check.of(Told.choir(1, 0, 5) + Told.wall(7, 1) + Told.stone(60, 1, 0) + Told.rain(1, 1, 0).repeat(8));
        eq("all but one of 256", seven.chance(0, 0), 255);
        eq("all but one of 256", seven.chance(0, 1), 256);
    }

    private static void draws() {
        says("DRAWS: x becomes (1103515245 x + 12345) modulo 2,147,483,648 (at first it is the seed); a draw: x / 65536, cut, modulo 10.");
        int[] seeds = {0, 1, 2, 100, 1999999999, 2000000000};
        int[][] draws = {{0, 8, 8, 7, 8, 7, 5, 1}, {8, 8, 3, 5, 1, 7, 0, 9}, {8, 7, 9, 4, 7, 5, 6, 5}, {2, 2, 1, 8, 4, 3, 9, 2},
            {3, 3, 6, 9, 1, 1, 9, 0}, {4, 3, 1, 7, 6, 2, 7, 7}};
        for (int odds = 0; odds <= 10; odds++) {
            DrinkingStones x = Check.of(Told.choir(1, 0, odds) + Told.rain(1, 1, 0).repeat(8));
            for (int i = 0; i < seeds.length; i++) {
                int bits = 0;
                for (int r = 0; r < 8; r++) {
                    bits |= draws[i][r] < odds ? 1 << r : 0;
                }
                eq("drawn from " + seeds[i] + " by odds " + odds, x.drawn(seeds[i], 0), bits);
            }
        }
        says("CENTURY drawn: RAIN by RAIN told a draw: below odds it comes.");
        // draws from 7 are 4 6 8: a rain of a year there is not takes its draw, too
        String text = Told.wall(4, 1) + Told.stone(60, 1, 0) + Told.rain(5, 1, 11) + Told.rain(5, 1, 0) + Told.rain(1, 1, 0);
        int[][] cases = {{4, 0, 1}, {5, 1, 1}, {6, 1, 1}, {7, 3, 0}, {8, 3, 0}, {9, 7, 0}};
        for (int[] one : cases) {
            DrinkingStones x = Check.of(Told.choir(1, 0, one[0]) + text);
            eq("rains by odds " + one[0], x.drawn(7, 0), one[1]);
            eq("walls by odds " + one[0], x.drawn(7, 1), one[2]);
        }
        DrinkingStones none = Check.of(Told.choir(1, 0, 0) + text);
        none.rains(5, 1, 0);
        eq("those of acts come", none.drawn(7, 1), 0);
        eq("those of acts take no draw", none.drawn(7, 0), 0);
        eq("seeds beyond", none.drawn(MAX, 0) + none.drawn(MIN, 0), -4);
    }
}
