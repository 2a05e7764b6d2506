/** Promise by promise, worked out by hand: ordinary calls, the edges that the document names, wrong calls. */
public final class PromisesTest {
    private static final Check CHECK = new Check();
    private static final int MAX = Integer.MAX_VALUE;
    private static final int MIN = Integer.MIN_VALUE;

    private static final String A = "choir years 4 law 1 odds 5;wall bears 20 gives 5;wall bears 100 gives 10;"
            + "stone room 10 wide 1 on 0;stone room 20 wide 2 on 0;stone room 30 wide 1 on 1;"
            + "rain 6 of 1 at 0;rain 8 of 2 at 1;rain 5 of 1 at 2;tap 1 4 at 1;";
    /** Neither walls nor stones. */
    private static final String BARE = "choir years 1 law 0 odds 0;";
    /** Its first wall falls in the first year; by law 2 what comes down on it then does not come on. */
    private static final String FALL = "choir years 3 law 2 odds 10;wall bears 4 gives 1;wall bears 300 gives 60;"
            + "stone room 5 wide 1 on 0;stone room 9 wide 1 on 1;rain 5 of 1 at 0;rain 3 of 2 at 1;";
    /** A wall that stands if its first rain does not come; its last rain is of a year there is not. */
    private static final String CHANCE = "choir years 1 law 0 odds 3;wall bears 4 gives 1;stone room 10 wide 1 on 0;"
            + "rain 5 of 1 at 0;rain 2 of 1 at 0;rain 9 of 1 at 1;";

    public static void main(String[] args) {
        tapeAndChoir();
        told();
        cells();
        years();
        walls();
        ways();
        lawsOfDrinking();
        saving();
        otherwise();
        seen();
        byLaw();
        sharesAndGames();
        chances();
        acts();
        draws();
        rating();
        counting();
        images();
        slots();
        withoutChoir();
        CHECK.end("PromisesTest");
    }

    private static void eq(String what, long got, long want) {
        CHECK.eq(what, got, want);
    }

    private static String byLawText(int law) {
        return "choir years 2 law " + law + " odds 10;wall bears 300 gives 60;wall bears 300 gives 60;"
                + "stone room 5 wide 1 on 0;stone room 5 wide 1 on 1;stone room 9 wide 1 on 0;"
                + "rain 3 of 1 at 0;rain 4 of 2 at 1;";
    }

    private static void tapeAndChoir() {
        DrinkingStones x = new DrinkingStones();
        eq("NONE", DrinkingStones.NONE, -1);
        eq("p1 count 8", x.count(8), 0);
        eq("p5 ahead of any", x.fault(0), 0);
        eq("p5 ahead of any", x.fault(1), -1);
        eq("p5 what 2", x.fault(2), -1);
        eq("p5 what -1", x.fault(-1), -1);
        for (int i = 1; i <= 30; i++) eq("p2 feed", x.feed(0, 0, 0, 0, 0), 20 * i);
        eq("p2 full", x.feed(0, 0, 0, 0, 0), -1);
        eq("p2 none came", x.count(9), 600);
        eq("p3 whole", x.end(600), 600);
        eq("p3 too many", x.end(601), -1);
        eq("p3 below 0", x.end(-1), -1);
        eq("p3 MIN", x.end(MIN), -1);
        eq("p3 nothing happens", x.count(9), 600);
        eq("p3 shorter", x.end(581), 581);
        eq("p2 would be 601", x.feed(0, 0, 0, 0, 0), -1);
        eq("p3 nothing at all", x.end(0), 0);
        eq("p4 empty", x.choir(), 0);
        // 'c' 'h' 'o' 'i', the highest byte first
        x.feed(0x63686f69, 0x72207965, 0x61727320, 0x32206c61, 0x77203020);
        x.feed(0x6f646473, 0x20303b20, 0x20202020, 0x20202020, 0x20202020);
        eq("p4 highest first", x.choir(), 1);
        eq("p4 years", x.count(0), 2);
        eq("p4 tape empty then", x.count(9), 0);
        x.rains(1, 1, 0);
        Check.feed(x, "choir years 2 law 4");
        eq("p4 fault", x.choir(), -4);
        eq("p5 fault", x.fault(0), 2);
        eq("p5 place", x.fault(1), 18);
        eq("p4 all stays", x.count(7), 1);
        eq("p4 tape empty after a fault", x.count(9), 0);
        Check.feed(x, A);
        eq("p4 in place of another", x.choir(), 10);
        eq("p4 nothing done", x.count(7), 0);
        eq("p5 without", x.fault(0), 0);
        eq("p5 without", x.fault(1), -1);
        eq("p4 to none", x.choir(), 0);
        eq("p4 there is none then", x.all(0), -2);
        eq("p4 nor walls", x.wall(0, 0), -2);
        for (int i = 0; i <= 9; i++) eq("p71 there is none then, " + i, x.count(i), 0);
        retold();
        x.feed(0xc3000000, 0, 0, 0, 0);
        eq("p4 strange bytes", x.choir(), -4);
        eq("p5 strange byte", x.fault(0), 1);
        eq("p5 its place", x.fault(1), 0);
        Check.feed(x, "choir years 1 law 0 odds 0 ");
        eq("p4 cut short", x.choir(), -4);
        eq("p5 end", x.fault(0), 1);
        eq("p5 the end's place", x.fault(1), 27);
    }

    /** What was worked out of one choir is not told of the next. */
    private static void retold() {
        DrinkingStones x = Check.of(A);
        eq("p4 one", x.all(4), 19);
        eq("p4 one", x.share(0, 0), -5);
        eq("p4 one", x.chance(0, 1), 8);
        Check.feed(x, FALL);
        eq("p4 another", x.choir(), 7);
        eq("p4 another", x.all(1), 5);
        eq("p4 another", x.share(0, 0), 0);
        eq("p4 another", x.chance(0, 1), 1);
        eq("p4 another", x.lost(1), 3);
        eq("p4 heard anew", x.heard(1), 0);
    }

    private static void told() {
        DrinkingStones x = Check.of(A);
        eq("p6", x.wall(0, 0), 20);
        eq("p6", x.wall(1, 1), 10);
        eq("p6 no wall", x.wall(2, 0), -2);
        eq("p6 no wall", x.wall(-1, 0), -2);
        eq("p6 no what", x.wall(0, 2), -2);
        eq("p6 no what", x.wall(0, -1), -2);
        eq("p7", x.stone(0, 0), 10);
        eq("p7", x.stone(1, 1), 2);
        eq("p7", x.stone(2, 2), 1);
        eq("p7 no stone", x.stone(3, 0), -2);
        eq("p7 no stone", x.stone(MIN, 0), -2);
        eq("p7 no what", x.stone(0, 3), -2);
        eq("p8", x.rain(0, 0), 6);
        eq("p8", x.rain(1, 1), 2);
        eq("p8", x.rain(2, 2), 2);
        eq("p8 no rain", x.rain(3, 0), -2);
        eq("p8 no rain", x.rain(-1, 0), -2);
        eq("p8 no what", x.rain(0, 3), -2);
        x.rains(1, 1, 0);
        eq("p8 acts are not told", x.rain(3, 0), -2);
        eq("p9", x.stones(0), 3);
        eq("p9", x.stones(1), 4);
        eq("p9 no wall", x.stones(2), -2);
        eq("p9 no wall", x.stones(-1), -2);
    }

    private static void cells() {
        DrinkingStones x = Check.of(A);
        eq("p10", x.has(1, 2), 16);
        eq("p10 last", x.has(2, 4), 19);
        eq("p10 first", x.has(2, 0), 0);
        eq("p11", x.layers(2, 3), 3);
        eq("p11 empty", x.layers(0, 4), 0);
        eq("p12 sort", x.layer(2, 3, 1, 0), 2);
        eq("p12 much", x.layer(2, 3, 2, 1), 5);
        eq("p12 none", x.layer(2, 3, 3, 1), -1);
        eq("p12 none", x.layer(2, 3, -1, 1), -1);
        eq("p12 none", x.layer(2, 3, MAX, 1), -1);
        eq("p12 no what", x.layer(2, 3, 0, 2), -2);
        eq("p12 no what ahead of no layer", x.layer(2, 3, 9, -1), -2);
        eq("p13", x.sort(2, 3, 1), 11);
        eq("p13 none of it", x.sort(2, 3, 5), 0);
        eq("p13 no sort", x.sort(2, 3, 0), -2);
        eq("p13 no sort", x.sort(2, 3, 6), -2);
        eq("p14", x.top(2, 2), 2);
        eq("p14 empty", x.top(2, 0), 0);
        eq("p15", x.under(2, 2), 1);
        eq("p15 empty", x.under(0, 3), 0);
        eq("p16", x.left(1, 2), 4);
        eq("p16 fell", x.left(1, 4), 20);
        eq("p17", x.thick(2, 3), 8);
        eq("p17 empty", x.thick(2, 0), 0);
        int[][] wrong = {{3, 0}, {-1, 0}, {0, 5}, {0, -1}, {MAX, MAX}, {MIN, MIN}};
        for (int[] w : wrong) {
            eq("p10 wrong", x.has(w[0], w[1]), -2);
            eq("p11 wrong", x.layers(w[0], w[1]), -2);
            eq("p12 wrong", x.layer(w[0], w[1], 0, 0), -2);
            eq("p13 wrong", x.sort(w[0], w[1], 1), -2);
            eq("p14 wrong", x.top(w[0], w[1]), -2);
            eq("p15 wrong", x.under(w[0], w[1]), -2);
            eq("p16 wrong", x.left(w[0], w[1]), -2);
            eq("p17 wrong", x.thick(w[0], w[1]), -2);
            eq("p42 wrong", x.alike(w[0], w[1]), -2);
        }
    }

    private static void years() {
        DrinkingStones x = Check.of(A);
        eq("p18", x.wettest(), 0);
        eq("p18 least less", Check.of("choir years 1 law 0 odds 0;").wettest(), 0);
        eq("p18 first of several", Check.of(byLawText(2).replace("rain 4", "rain 3").replace("room 5", "room 9")).wettest(), 0);
        eq("p18 later", Check.of(byLawText(2)).wettest(), 1);
        eq("p19", x.ruin(), 3);
        eq("p19 none", Check.of(BARE).ruin(), -1);
        eq("p20", x.dry(3), 3);
        eq("p20 all", x.dry(0), 7);
        eq("p21", x.sorted(2, 2), 20);
        eq("p21 no sort", x.sorted(0, 2), -2);
        eq("p21 no sort", x.sorted(6, 2), -2);
        eq("p21 no year", x.sorted(1, 5), -2);
        eq("p22", x.gone(), 53);
        eq("p22 none", Check.of(BARE).gone(), 0);
        eq("p23", x.spread(2), 6);
        eq("p23 without stones", Check.of(BARE).spread(1), 0);
        eq("p24", x.full(2), 1);
        eq("p24 none", x.full(0), 0);
        eq("p25", x.bead(0), 2);
        eq("p25 none", x.bead(1), -1);
        eq("p25 wrong", x.bead(3), -2);
        eq("p26", x.most(1), 16);
        eq("p26 wrong", x.most(-1), -2);
        eq("p27", x.all(2), 40);
        eq("p28", x.deepest(2), 1);
        eq("p28 first of several", x.deepest(0), 0);
        eq("p28 no stones", Check.of(BARE).deepest(0), -1);
        eq("p29", x.sorts(2), 6);
        eq("p29 empty", x.sorts(0), 0);
        for (int year : new int[] {5, -1, MAX, MIN}) {
            eq("p20 wrong", x.dry(year), -2);
            eq("p21 wrong", x.sorted(1, year), -2);
            eq("p23 wrong", x.spread(year), -2);
            eq("p24 wrong", x.full(year), -2);
            eq("p27 wrong", x.all(year), -2);
            eq("p28 wrong", x.deepest(year), -2);
            eq("p29 wrong", x.sorts(year), -2);
            eq("p32 wrong", x.stands(year), -2);
        }
    }

    private static void walls() {
        DrinkingStones x = Check.of(A);
        eq("p30", x.load(0, 2), 26);
        eq("p30 no wall", x.load(2, 2), -2);
        eq("p30 no year", x.load(0, 5), -2);
        eq("p31", x.sunk(0, 2), 2);
        eq("p31 as when it fell", x.sunk(0, 4), 5);
        eq("p31 no wall", x.sunk(-1, 2), -2);
        eq("p31 no year", x.sunk(0, -1), -2);
        eq("p32", x.stands(2), 3);
        eq("p32 fell", x.stands(3), 2);
        eq("p33", x.falls(0), 3);
        eq("p33 none", x.falls(1), -1);
        eq("p33 wrong", x.falls(2), -2);
        eq("p33 wrong", x.falls(-1), -2);
        eq("p34", x.lowest(), 0);
        eq("p34 none", Check.of(byLawText(0)).lowest(), -1);
        // loads 11 and 6 on walls that bear 1: sunk by 3 and by 2 a year
        String two = "choir years 2 law 0 odds 0;wall bears 1 gives 60;wall bears 1 gives 60;stone room 6 wide 1 on 0;stone room 11 wide 1 on 1;rain 20 of 1 at 0;";
        eq("p31 cut, and 1", Check.of(two).sunk(0, 1), 2);
        eq("p31 again each year", Check.of(two).sunk(1, 2), 6);
        eq("p34 most", Check.of(two).lowest(), 1);
        eq("p34 first of several", Check.of(two.replace("room 6", "room 11")).lowest(), 0);
        eq("p31 load that it bears", Check.of(two.replace("bears 1", "bears 11")).sunk(1, 2), 0);
        // sunk as much as it gives: it falls; one less: it stands
        eq("p33 as much as it gives", Check.of(two.replace("gives 60", "gives 3")).falls(1), 1);
        eq("p33 less", Check.of(two.replace("gives 60", "gives 4")).falls(1), 2);
        eq("p33 the other", Check.of(two.replace("gives 60", "gives 5")).falls(0), -1);
    }

    private static void ways() {
        DrinkingStones x = Check.of(A);
        eq("p35", x.heard(1), 4);
        eq("p35 none", x.heard(5), 0);
        eq("p35 wrong", x.heard(0), -2);
        eq("p35 wrong", x.heard(6), -2);
        eq("p36", x.tapped(1), 4);
        eq("p36 none", x.tapped(3), 0);
        eq("p36 the last", x.tapped(4), -2);
        eq("p36 wrong", x.tapped(-1), -2);
        eq("p37", x.tells(1), 2);
        eq("p37 wrong", x.tells(3), -2);
        eq("p38", x.lost(2), 41);
        eq("p38 the last", x.lost(4), -2);
        eq("p38 wrong", x.lost(-1), -2);
        eq("p39", x.drinks(1), 24);
        eq("p39 wrong", x.drinks(3), -2);
        eq("p40", x.when(0, 2), 2);
        eq("p40 none", x.when(0, 3), -1);
        eq("p40 no stone", x.when(3, 1), -2);
        eq("p40 no sort", x.when(0, 0), -2);
        eq("p40 no sort", x.when(0, 6), -2);
        eq("p41", x.sinks(1), 1);
        eq("p41 never", x.sinks(2), 0);
        eq("p41 wrong", x.sinks(-1), -2);
        eq("p42", x.alike(2, 3), 1);
        eq("p42 empty ones", x.alike(0, 3), 2);
        eq("p42 all", x.alike(0, 0), 3);
        // a tap lets out as much as there is, the lowest first
        x.taps(2, 10, 2);
        eq("p37 two sorts", x.tells(2), 6);
        eq("p35 lowest first", x.heard(1), 10);
        eq("p35 then the next", x.heard(2), 4);
        x.taps(2, 60, 3);
        eq("p36 as far as it has", x.tapped(3), 9);
        eq("p39 let out or not", x.drinks(2), 19);
        eq("p41 twice", x.sinks(2), 2);
    }

    private static void lawsOfDrinking() {
        int[][] has = {{5, 5, 7}, {5, 5, 9}, {5, 5, 9}, {5, 5, 7}};
        int[] lost = {4, 2, 2, 4};
        int[][] drinks = {{5, 5, 7}, {5, 5, 9}, {5, 5, 9}, {7, 7, 7}};
        int[] lowestSort1 = {3, 3, 3, 1};
        for (int law = 0; law <= 3; law++) {
            DrinkingStones x = Check.of(byLawText(law));
            for (int s = 0; s < 3; s++) {
                eq("II has by law " + law, x.has(s, 2), has[law][s]);
                eq("II drinks by law " + law, x.drinks(s), drinks[law][s]);
            }
            eq("II lost by law " + law, x.lost(1), lost[law]);
            eq("II lowest by law " + law, x.layer(0, 2, 0, 1), lowestSort1[law]);
        }
        eq("II law 1 comes on", Check.of(byLawText(1)).sort(2, 2, 2), 6);
        // more than all its room: the rest is lost, all that was is pressed out
        DrinkingStones x = Check.of(byLawText(3).replace("rain 4", "rain 20"));
        eq("II pressed whole", x.layers(0, 2), 1);
        eq("II pressed whole", x.under(0, 2), 2);
        eq("II lost", x.lost(1), 15 + 3 + 15 + 3 + 11 + 3);
        x = Check.of(FALL);
        eq("III fell", x.lost(0), 5);
        eq("II on a wall that fell", x.lost(1), 3);
        eq("II does not come on", x.has(1, 2), 8);
        eq("III empty for ever", x.most(0), 0);
        eq("II room when it fell", x.left(0, 3), 5);
        // rains told come ahead of those of acts
        x = Check.of(byLawText(0));
        x.rains(1, 3, 0);
        eq("III told ones first", x.under(0, 1), 1);
        eq("III then acts", x.top(0, 1), 3);
        eq("II one with the top", Check.of(byLawText(0).replace("of 2", "of 1")).layers(0, 2), 1);
    }

    private static void saving() {
        DrinkingStones x = Check.of(A);
        eq("p43", x.save(2), 2);
        eq("p44", x.saves(2), 3);
        eq("p43 none", x.save(3), -1);
        eq("p44 none", x.saves(1), -1);
        for (int year : new int[] {4, -1, MAX}) {
            eq("p43 wrong", x.save(year), -2);
            eq("p44 wrong", x.saves(year), -2);
        }
        eq("p45", x.latest(), 2);
        eq("p43 stand as it is", Check.of(byLawText(1)).save(1), 0);
        eq("p44 stand as it is", Check.of(byLawText(1)).saves(1), 0);
        eq("p45 the empty set", Check.of(byLawText(1)).latest(), 1);
        eq("p45 none", Check.of(FALL).latest(), -1);
        // one of two alike must let out: the least set
        String one = "choir years 2 law 0 odds 0;wall bears 9 gives 1;stone room 9 wide 1 on 0;stone room 9 wide 1 on 0;rain 4 of 1 at 0;rain 2 of 1 at 1;";
        eq("p44 least", Check.of(one).saves(1), 1);
        eq("p43 one", Check.of(one).save(1), 1);
        eq("p43 as it was", Check.of(one).save(0), -1);
        x = Check.of(one);
        x.save(1);
        eq("p43 changes nothing", x.has(0, 1), 4);
    }

    private static void otherwise() {
        DrinkingStones x = Check.of(A);
        eq("p46", x.blame(), 1);
        eq("p46 none", Check.of(byLawText(0)).blame(), -1);
        eq("p46 first of several", Check.of("choir years 1 law 0 odds 0;wall bears 5 gives 1;stone room 9 wide 1 on 0;rain 3 of 1 at 0;rain 3 of 1 at 0;").blame(), 0);
        eq("p47 none", x.needed(), -1);
        String taps = "choir years 1 law 0 odds 0;wall bears 5 gives 1;stone room 9 wide 1 on 0;rain 7 of 1 at 0;tap 0 1 at 1;tap 0 1 at 0;tap 0 1 at 0;";
        eq("p47", Check.of(taps).needed(), 1);
        eq("p48", x.needs(0), 26);
        eq("p48 other", x.needs(1), 5);
        eq("p48 wrong", x.needs(2), -2);
        eq("p48 wrong", x.needs(-1), -2);
        String heavy = "choir years 1 law 0 odds 0;wall bears 300 gives G;".replace("G", "1")
                + "stone room 60 wide 4 on 0;".repeat(6) + "rain 20 of 1 at 0;";
        eq("p48 by none", Check.of(heavy).needs(0), -1);
        eq("p48 edge", Check.of(heavy.replace("gives 1", "gives 60")).needs(0), 66);
        eq("p48 nothing", Check.of(BARE.replace(";", ";wall bears 9 gives 1;")).needs(0), 0);
        eq("p49", x.heavy(), 2);
        eq("p49 none", Check.of(BARE).heavy(), -1);
        eq("p49 first of several", Check.of(heavy.replace("gives 1", "gives 60")).heavy(), 0);
        // by law 2 what a bunged stone would drink goes on: nothing is less by the first
        eq("p49 goes on", Check.of("choir years 1 law 2 odds 0;wall bears 300 gives 60;stone room 5 wide 1 on 0;stone room 60 wide 1 on 0;rain 5 of 1 at 0;").heavy(), 1);
    }

    private static void seen() {
        DrinkingStones x = Check.of(A);
        eq("p50 nothing", x.rooms(0, 0), -6);
        eq("p55 nothing", x.laws(0), -6);
        eq("p50 no stone ahead of nothing", x.rooms(0, 3), -2);
        eq("p50 no slot", x.rooms(4, 0), -2);
        eq("p55 no slot", x.laws(-1), -2);
        Check.row(x, 0, 0, 1, 6);
        eq("p50", x.rooms(0, 0), 55);
        eq("p51", x.least(0, 0), 6);
        eq("p52", x.greatest(0, 0), 60);
        eq("p53", x.ask(0, 0), 2);
        eq("p54", x.leaves(0, 0), 47);
        eq("p55", x.laws(0), 15);
        Check.row(x, 1, 0, 1, 6, 0, 2, 10);
        eq("p50 one", x.rooms(1, 0), 1);
        eq("p51 one", x.least(1, 0), 10);
        eq("p52 one", x.greatest(1, 0), 10);
        eq("p53 none fewer", x.ask(1, 0), -1);
        eq("p54 as now", x.leaves(1, 0), 1);
        Check.row(x, 2, 0, 1, 60);
        eq("p50 none", x.rooms(2, 0), 0);
        eq("p51 none", x.least(2, 0), -1);
        eq("p52 none", x.greatest(2, 0), -1);
        eq("p53 none", x.ask(2, 0), -1);
        eq("p54 none", x.leaves(2, 0), 0);
        eq("p55 none", x.laws(2), 0);
        x.row(3, 0, 0);
        eq("p50 an empty row", x.rooms(3, 0), 60);
        eq("p55 an empty row", x.laws(3), 15);
        int[][] bad = {{3, 0, 0}, {-1, 0, 0}, {0, 5, 0}, {0, -1, 0}, {0, 0, 61}, {0, 0, -1}, {0}, {0, 0}, {0, 0, 0, 0}, {0, 0, 0, 0, 9, 0}};
        for (int[] row : bad) {
            Check.row(x, 3, row);
            eq("p50 bad row", x.rooms(3, 0), -2);
            eq("p51 bad row", x.least(3, 0), -2);
            eq("p52 bad row", x.greatest(3, 0), -2);
            eq("p53 bad row", x.ask(3, 0), -2);
            eq("p54 bad row", x.leaves(3, 0), -2);
            eq("p55 bad row", x.laws(3), -2);
        }
        x.row(3, 3, 3);
        x.write(3, 2, 4294967296L);
        eq("p50 long number", x.rooms(3, 0), -2);
        x.row(3, 2, 3);
        x.write(3, 2, 4294967296L);
        eq("p50 cut number", x.rooms(3, 0), 60);
        for (int stone : new int[] {3, -1, MIN}) {
            eq("p51 no stone", x.least(0, stone), -2);
            eq("p52 no stone", x.greatest(0, stone), -2);
            eq("p53 no stone", x.ask(0, stone), -2);
            eq("p54 no stone", x.leaves(0, stone), -2);
        }
        // only the twelfth year's rain tells the rooms from 5 on apart: all but those from 9 on
        DrinkingStones late = Check.of("choir years 12 law 0 odds 0;wall bears 300 gives 60;stone room 7 wide 1 on 0;rain 4 of 1 at 0;rain 5 of 1 at 11;");
        Check.row(late, 0, 0, 1, 4);
        eq("p50 from 4 on", late.rooms(0, 0), 57);
        eq("p53 the last year", late.ask(0, 0), 12);
        eq("p54 the last year", late.leaves(0, 0), 52);
        eq("p50 changes nothing", x.stone(0, 0), 10);
    }

    private static void byLaw() {
        DrinkingStones x = Check.of(byLawText(0));
        int[] all = {17, 19, 19, 17};
        for (int law = 0; law <= 3; law++) eq("p56", x.by(law), all[law]);
        eq("p56 wrong", x.by(4), -2);
        eq("p56 wrong", x.by(-1), -2);
        eq("p56 changes nothing", x.all(2), 17);
        eq("p57 least of several", x.law(), 0);
        // what comes on brings the wall down by laws 1 and 2, not by 0 and 3
        DrinkingStones y = Check.of("choir years 1 law 1 odds 0;wall bears 20 gives 1;stone room 4 wide 1 on 0;stone room 60 wide 1 on 0;rain 13 of 1 at 0;");
        eq("p57 falls as told", y.stands(1), 0);
        eq("p57 stands by another", y.law(), 0);
        eq("p57 changes nothing", y.count(1), 1);
        Check.row(x, 0, 0, 2, 5, 2, 2, 9);
        eq("p55 two laws", x.laws(0), 6);
        Check.row(x, 0, 2, 1, 3, 0, 2, 5, 2, 2, 7);
        eq("p55 other laws", x.laws(0), 9);
    }

    private static void sharesAndGames() {
        DrinkingStones x = Check.of(A);
        int[] worth = {0, 10, 20, 0, 19};
        for (int set = 0; set < 5; set++) eq("p58", x.worth(set), worth[set]);
        eq("p58 all", x.worth(7), 19);
        eq("p58 wrong", x.worth(8), -2);
        eq("p58 wrong", x.worth(-1), -2);
        eq("p58 no stones", Check.of(BARE).worth(0), 0);
        eq("p58 no stones", Check.of(BARE).worth(1), -2);
        eq("p59", x.share(1, 0), 5);
        eq("p59 below 0", x.share(0, 0), -5);
        eq("p59 below", x.share(0, 1), 1);
        eq("p59 wrong", x.share(3, 0), -1000000);
        eq("p59 wrong", x.share(-1, 0), -1000000);
        eq("p59 wrong", x.share(0, 2), -1000000);
        eq("p58 worths kept", x.worth(2), 20);
        String two = "choir years 1 law 2 odds 0;wall bears 300 gives 60;stone room 4 wide 1 on 0;stone room 20 wide 1 on 0;rain 5 of 1 at 0;";
        x = Check.of(two);
        eq("p59 half", x.share(0, 0), 9);
        eq("p59 half", x.share(0, 1), 2);
        eq("p59 other", x.share(1, 0), 11);
        eq("p58 what others would is lost", x.worth(2), 5);
        x.rains(1, 1, 0);
        eq("p59 after an act", x.share(0, 0), 5);
        eq("p59 nothing", Check.of(two.replace("rain 5 of 1 at 0;", "")).share(0, 0), 0);
        eq("p59 nothing", Check.of(two.replace("rain 5 of 1 at 0;", "")).share(0, 1), 1);
        x = Check.of(A);
        eq("p60", x.rests(0, 1), 6);
        eq("p60 twice", x.rests(1, 1), -2);
        eq("p60 wrong", x.rests(0, 3), -2);
        eq("p60 wrong", x.rests(-1, 0), -2);
        eq("p61", x.gets(0, 1, 0, 1), 10);
        eq("p61 below 0", x.gets(0, 1, 0, 0), -10);
        eq("p61 bunged", x.gets(0, 1, 1, 0), 7);
        eq("p61 of the first", x.gets(1, 0, 0, 1), 20);
        eq("p61 twice", x.gets(0, 0, 0, 0), -1000);
        eq("p61 wrong", x.gets(0, 3, 0, 0), -1000);
        eq("p61 wrong", x.gets(0, 1, 2, 0), -1000);
        eq("p61 wrong", x.gets(0, 1, 0, -1), -1000);
        // what a bunged stone would drink goes on by law 2, and is lost by law 0
        eq("p61 goes on", Check.of(two).gets(1, 0, 0, 1), 10);
        eq("p61 lost", Check.of(two.replace("law 2", "law 0")).gets(1, 0, 0, 1), 5);
        // 4 and 6 unbunged; 7 bunged: both bung themselves, the second has 10 when the first is
        eq("p60 by law 2", Check.of(two).rests(0, 1), 2);
    }

    private static void chances() {
        DrinkingStones x = Check.of(CHANCE);
        eq("p62 above", x.chance(0, 0), 7);
        eq("p62 below", x.chance(0, 1), 10);
        eq("p62 wrong", x.chance(1, 0), -2);
        eq("p62 wrong", x.chance(-1, 0), -2);
        eq("p62 wrong", x.chance(0, 2), -2);
        eq("p63 above", x.mean(0), 21);
        eq("p63 below", x.mean(1), 50);
        eq("p63 wrong", x.mean(2), -2);
        eq("p63 wrong", x.mean(-1), -2);
        x.rains(3, 1, 0);
        eq("p62 acts are sure", x.chance(0, 0), 49);
        eq("p62 acts are sure", x.chance(0, 1), 100);
        x = Check.of(CHANCE.replace("odds 3", "odds 10"));
        eq("p62 surely not", x.chance(0, 0), 0);
        eq("p62 surely not", x.chance(0, 1), 1);
        x = Check.of(CHANCE.replace("odds 3", "odds 0"));
        eq("p62 surely", x.chance(0, 0), 1);
        eq("p62 surely", x.chance(0, 1), 1);
        eq("p63 nothing", x.mean(0), 0);
        eq("p63 nothing", x.mean(1), 1);
        x = Check.of("choir years 1 law 0 odds 9;wall bears 300 gives 60;" + "stone room 60 wide 4 on 0;".repeat(6) + "rain 1 of 1 at 0;".repeat(8));
        eq("p63 eight rains", x.mean(0), 864);
        eq("p63 eight rains", x.mean(1), 5);
        x = Check.of("choir years 1 law 0 odds 9;wall bears 0 gives 1;stone room 60 wide 1 on 0;" + "rain 1 of 1 at 0;".repeat(8));
        eq("p62 one of a hundred million", x.chance(0, 0), 1);
        eq("p62 one of a hundred million", x.chance(0, 1), 100000000);
    }

    private static void acts() {
        DrinkingStones x = Check.of(A);
        eq("p66 none", x.undo(), -5);
        eq("p67 none", x.anew(), 0);
        eq("p64", x.rains(2, 3, 3), 21);
        eq("p65", x.taps(2, 5, 3), 5);
        eq("p65 in that year", x.taps(1, 2, 1), 6);
        int[][] wrong = {{0, 1, 0}, {21, 1, 0}, {-1, 1, 0}, {1, 0, 0}, {1, 6, 0}, {1, 1, 4}, {1, 1, -1}};
        for (int[] w : wrong) eq("p64 wrong", x.rains(w[0], w[1], w[2]), -2);
        int[][] bad = {{3, 1, 0}, {-1, 1, 0}, {0, 0, 0}, {0, 61, 0}, {0, 1, 4}, {0, 1, -1}};
        for (int[] w : bad) eq("p65 wrong", x.taps(w[0], w[1], w[2]), -2);
        eq("acts stay", x.count(7), 3);
        eq("p66", x.undo(), 2);
        eq("p66 taken back", x.tapped(1), 4);
        eq("p67", x.anew(), 2);
        eq("p67 all", x.all(4), 19);
        for (int i = 0; i < 30; i++) {
            if (i % 2 == 0) x.rains(1, 1, 3);
            else x.taps(2, 1, 3);
        }
        eq("p64 thirty", x.count(7), 30);
        eq("p64 full", x.rains(1, 1, 3), -5);
        eq("p65 full", x.taps(2, 1, 3), -5);
        eq("p64 -2 ahead of -5", x.rains(0, 1, 3), -2);
        eq("p65 -2 ahead of -5", x.taps(3, 1, 3), -2);
        eq("p66 one less", x.undo(), 29);
        // 19 and 16 more are cut to its room of 30, then 14 taps
        eq("p64 again", x.rains(1, 1, 3), 16);
        eq("p67 thirty", x.anew(), 30);
        eq("p66 none left", x.undo(), -5);
    }

    private static void draws() {
        // draws from 0 are 0 8 8, from 7 are 4 6 8, from the last seed 4 3 1
        DrinkingStones x = Check.of(CHANCE);
        eq("p68 rains", x.drawn(0, 0), Integer.parseInt(DRAWN_0, 2));
        eq("p68 rains", x.drawn(7, 0), Integer.parseInt(DRAWN_7, 2));
        eq("p68 rains", x.drawn(2000000000, 0), Integer.parseInt(DRAWN_LAST, 2));
        eq("p68 walls", x.drawn(0, 1), DRAWN_0.endsWith("1") ? 0 : 1);
        eq("p68 walls", x.drawn(7, 1), DRAWN_7.endsWith("1") ? 0 : 1);
        eq("p68 wrong", x.drawn(-1, 0), -2);
        eq("p68 wrong", x.drawn(2000000001, 0), -2);
        eq("p68 wrong", x.drawn(0, 2), -2);
        eq("p68 no walls", Check.of(BARE).drawn(5, 1), 0);
        int many = 0;
        for (int i = 0; i < 20; i++) many += x.drawn(100 + i, 1);
        eq("p69", x.luck(100, 20, 0), many);
        eq("p69 one", x.luck(7, 1, 0), x.drawn(7, 1));
        eq("p69 last seed", x.luck(2000000000, 1, 0), x.drawn(2000000000, 1));
        eq("p69 wrong", x.luck(-1, 1, 0), -2);
        eq("p69 wrong", x.luck(2000000001, 1, 0), -2);
        eq("p69 wrong", x.luck(0, 0, 0), -2);
        eq("p69 wrong", x.luck(0, 21, 0), -2);
        eq("p69 wrong", x.luck(0, 1, 1), -2);
        x.rains(5, 1, 0);
        eq("p68 acts are sure", x.drawn(7, 1), 0);
        eq("p69 acts are sure", x.luck(0, 20, 0), 0);
    }

    /** Of the three rains of CHANCE, by draws below 3, the first rain last. */
    private static final String DRAWN_0 = "001";
    private static final String DRAWN_7 = "000";
    private static final String DRAWN_LAST = "100";

    private static void rating() {
        DrinkingStones x = Check.of(A);
        eq("p70", x.rate(0, 26), 20);
        eq("p70 now", x.wall(0, 0), 26);
        eq("p70 stands", x.stands(4), 3);
        eq("p70 edge", x.rate(0, 300), 26);
        eq("p70 edge", x.rate(0, 0), 300);
        eq("p70 wrong", x.rate(0, 301), -2);
        eq("p70 wrong", x.rate(0, -1), -2);
        eq("p70 wrong", x.rate(2, 1), -2);
        x.rains(1, 1, 0);
        eq("p70 acts", x.rate(0, 5), -5);
        eq("p70 -2 ahead of -5", x.rate(2, 5), -2);
        eq("p70 stays", x.wall(0, 0), 0);
        x.anew();
        eq("p70 taken back", x.rate(0, 5), 0);
    }

    private static void counting() {
        DrinkingStones x = Check.of(A);
        int[] due = {4, 1, 5, 2, 3, 3, 1, 0, 10, 0, 0};
        for (int i = 0; i < due.length; i++) eq("p71 " + i, x.count(i), due[i]);
        eq("p71 wrong", x.count(11), -1);
        eq("p71 wrong", x.count(-1), -1);
        x.feed(0, 0, 0, 0, 0);
        x.row(3, 0, 0);
        x.row(1, 0, 9);
        x.rains(1, 1, 0);
        eq("p71 tape", x.count(9), 20);
        eq("p71 slots", x.count(10), 2);
        eq("p71 acts", x.count(7), 1);
    }

    private static void images() {
        DrinkingStones x = Check.of(A);
        eq("p73 nothing", x.back(2), -6);
        eq("p72 wrong", x.image(3), -2);
        eq("p72 wrong", x.image(-1), -2);
        eq("p73 wrong", x.back(3), -2);
        eq("p73 wrong", x.back(-1), -2);
        x.rains(2, 3, 3);
        eq("p72", x.image(2), 0);
        x.anew();
        x.rate(0, 300);
        eq("p72 other", x.image(0), 0);
        Check.feed(x, BARE);
        x.choir();
        x.row(0, 0, 1);
        x.feed(0, 0, 0, 0, 0);
        eq("p73", x.back(2), 0);
        eq("p73 acts", x.count(7), 1);
        eq("p73 choir", x.all(4), 21);
        eq("p73 bears", x.wall(0, 0), 20);
        eq("p73 lines", x.count(8), 10);
        eq("p73 slots stay", x.count(10), 1);
        eq("p73 tape stays", x.count(9), 20);
        x.undo();
        eq("p73 again", x.back(2), 0);
        eq("p73 kept as it was", x.count(7), 1);
        eq("p73 other", x.back(0), 0);
        eq("p73 rated", x.wall(0, 0), 300);
        DrinkingStones y = new DrinkingStones();
        eq("p72 no choir", y.image(1), 0);
        Check.feed(y, A);
        y.choir();
        eq("p73 to no choir", y.back(1), 0);
        eq("p73 no choir", y.all(0), -2);
        eq("p73 no lines", y.count(8), 0);
    }

    private static void slots() {
        DrinkingStones x = Check.of(A);
        eq("p74", x.row(0, 0, 60), 0);
        eq("p74 too long", x.row(0, 0, 61), -2);
        eq("p74 no slot", x.row(4, 0, 1), -2);
        eq("p74 no slot", x.row(-1, 0, 1), -2);
        eq("p74 no width", x.row(0, 4, 1), -2);
        eq("p74 no width", x.row(0, -1, 1), -2);
        eq("p74 -2 ahead of -3", x.row(4, 0, -1), -2);
        eq("p74 below 0", x.row(0, 0, -1), -3);
        eq("p74 stays", x.write(0, 59, 1), 0);
        eq("p74 nothing by -3", x.row(1, 0, MIN), -3);
        eq("p74 nothing by -3", x.count(10), 1);
        eq("p75 beyond", x.write(0, 60, 1), -7);
        eq("p75 below", x.write(0, -1, 1), -7);
        eq("p75 nothing", x.write(1, 0, 1), -6);
        eq("p75 nothing ahead of beyond", x.write(1, -1, 1), -6);
        eq("p75 no slot", x.write(4, 0, 1), -2);
        eq("p75 no slot", x.write(-1, 0, 1), -2);
        // a row is seen by rooms: of a stone and a year that are none such unless cut
        for (int width = 0; width <= 3; width++) {
            x.row(1, width, 3);
            eq("p75", x.write(1, 2, width == 3 ? 0 : 1L << (8 << width)), 0);
            eq("p75 cut to " + width, x.rooms(1, 0), 60);
            x.write(1, 2, width == 3 ? 61 : (1L << (8 << width)) + 61);
            eq("p75 cut to " + width, x.rooms(1, 0), -2);
            x.write(1, 2, Long.MIN_VALUE);
            eq("p75 MIN cut to " + width, x.rooms(1, 0), width == 3 ? -2 : 60);
        }
        x.row(1, 0, 3);
        x.write(1, 1, 1);
        x.write(1, 2, 6);
        x.row(1, 0, 3);
        eq("p74 all 0", x.rooms(1, 0), 60);
        Check.row(x, 1, 9, 9, 9);
        Check.row(x, 1, 0, 0, 0);
        x.row(1, 2, 3);
        x.write(1, 0, 9);
        eq("p75 the first number", x.rooms(1, 0), -2);
        x.row(1, 2, 3);
        eq("p74 the first, too", x.rooms(1, 0), 60);
        pasting(x);
    }

    private static void pasting(DrinkingStones x) {
        Check.row(x, 0, 0, 1, 6, 9, 9, 9);
        Check.row(x, 1, 0, 0, 0);
        eq("p76", x.paste(0, 0, 1, 0, 3), 0);
        eq("p76 put", x.rooms(1, 0), 55);
        eq("p76 from one on, to one on", x.paste(0, 1, 1, 1, 2), 0);
        eq("p76 put", x.least(1, 0), 6);
        eq("p76 own", x.paste(0, 0, 0, 3, 3), 0);
        eq("p76 own", x.rooms(0, 0), 55);
        // as they were, where they overlap: 0 1 6 from 0 on to 1 on gives 0 0 1, not 0 0 0
        Check.row(x, 2, 0, 1, 6);
        eq("p76 overlap", x.paste(2, 0, 2, 1, 2), 0);
        eq("p76 overlap", x.laws(2), 0);
        Check.row(x, 2, 2, 0, 0, 1);
        eq("p76 overlap back", x.paste(2, 1, 2, 0, 3), 0);
        eq("p76 no numbers", x.paste(0, 6, 1, 3, 0), 0);
        eq("p76 beyond its row", x.paste(0, 7, 1, 3, 0), -7);
        eq("p76 beyond", x.paste(0, 4, 1, 0, 3), -7);
        eq("p76 beyond the other", x.paste(0, 0, 1, 1, 3), -7);
        eq("p76 nothing happens", x.rooms(1, 0), 55);
        eq("p76 below", x.paste(0, -1, 1, 0, 1), -7);
        eq("p76 below", x.paste(0, 0, 1, -1, 1), -7);
        eq("p76 n below", x.paste(0, 0, 1, 0, -1), -7);
        eq("p76 great", x.paste(0, MAX, 1, MAX, MAX), -7);
        eq("p76 great", x.paste(0, 1, 1, 1, MAX), -7);
        eq("p76 nothing", x.paste(0, 0, 3, 0, 1), -6);
        eq("p76 nothing", x.paste(3, 0, 0, 0, 1), -6);
        eq("p76 nothing twice", x.paste(3, 0, 3, 0, 1), -6);
        x.row(3, 0, 3);
        eq("p76 widths", x.paste(0, 0, 3, 0, 1), -8);
        eq("p76 widths ahead of beyond", x.paste(0, -1, 3, 0, 99), -8);
        eq("p76 no slot", x.paste(4, 0, 0, 0, 1), -2);
        eq("p76 no slot", x.paste(0, 0, -1, 0, 1), -2);
    }

    private static void withoutChoir() {
        DrinkingStones x = new DrinkingStones();
        x.row(0, 0, 3);
        long[] two = {x.wall(0, 0), x.stone(0, 0), x.rain(0, 0), x.stones(0), x.has(0, 0), x.layers(0, 0), x.layer(0, 0, 0, 0),
            x.sort(0, 0, 1), x.top(0, 0), x.under(0, 0), x.left(0, 0), x.thick(0, 0), x.wettest(), x.ruin(), x.dry(0),
            x.sorted(1, 0), x.gone(), x.spread(0), x.full(0), x.bead(0), x.most(0), x.all(0), x.deepest(0), x.sorts(0),
            x.load(0, 0), x.sunk(0, 0), x.stands(0), x.falls(0), x.lowest(), x.heard(1), x.tapped(0), x.tells(0), x.lost(0),
            x.drinks(0), x.when(0, 1), x.sinks(0), x.alike(0, 0), x.save(0), x.saves(0), x.latest(), x.blame(), x.needed(),
            x.needs(0), x.heavy(), x.rooms(0, 0), x.least(0, 0), x.greatest(0, 0), x.ask(0, 0), x.leaves(0, 0), x.laws(0),
            x.laws(1), x.by(0), x.law(), x.worth(0), x.rests(0, 1), x.chance(0, 0), x.mean(0), x.rains(1, 1, 0),
            x.taps(0, 1, 0), x.undo(), x.anew(), x.drawn(0, 0), x.luck(0, 1, 0), x.rate(0, 0)};
        for (int i = 0; i < two.length; i++) eq("without a choir, call " + i, two[i], -2);
        eq("without a choir, share", x.share(0, 0), -1000000);
        eq("without a choir, gets", x.gets(0, 1, 0, 0), -1000);
        for (int i = 0; i < 9; i++) eq("without a choir, count " + i, x.count(i), 0);
    }
}
