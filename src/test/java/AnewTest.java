import java.util.ArrayList;
import java.util.LinkedHashMap;
import java.util.List;
import java.util.Map;
import java.util.function.Consumer;
import java.util.function.ToLongFunction;

/**
 * Answers come of the choir and its acts alone: not of choirs, acts and images that were ahead of them,
 * nor of what else was asked (promises 4, 66, 67, 70, 72, 73).
 */
public final class AnewTest {
    private static final Check CHECK = new Check();
    /** As much as can be told, with water of all sorts: one wall falls early, one late, one stands. */
    private static final String GREAT = Told.choir(12, 2, 6) + Told.wall(30, 4) + Told.wall(60, 9) + Told.wall(300, 60)
            + Told.stone(20, 2, 0) + Told.stone(60, 1, 1) + Told.stone(9, 4, 2) + Told.stone(33, 1, 0) + Told.stone(60, 3, 2) + Told.stone(14, 1, 1)
            + Told.rain(9, 1, 0) + Told.rain(7, 2, 0) + Told.rain(8, 3, 1) + Told.rain(20, 4, 3) + Told.rain(6, 5, 5) + Told.rain(20, 1, 9)
            + Told.rain(11, 2, 11) + Told.rain(3, 3, 11) + Told.tap(0, 5, 0) + Told.tap(1, 9, 1) + Told.tap(2, 3, 1) + Told.tap(4, 30, 3)
            + Told.tap(5, 6, 5) + Told.tap(4, 60, 11);
    /** One stone of one wall, of fewer years. */
    private static final String SMALL = Told.choir(2, 0, 3) + Told.wall(9, 3) + Told.stone(12, 1, 0) + Told.rain(4, 5, 0) + Told.rain(8, 1, 1) + Told.tap(0, 2, 1);
    private static final String[] TEXTS = {GREAT, Told.A, SMALL, Told.BARE, ""};

    private static final Map<String, ToLongFunction<DrinkingStones>> FLOW = new LinkedHashMap<>();
    private static final Map<String, ToLongFunction<DrinkingStones>> OTHERWISE = new LinkedHashMap<>();

    public static void main(String[] args) {
        askOfYears();
        askOfAll();
        askOtherwise();
        otherChoirs();
        otherActs();
        otherImages();
        otherQuestions();
        otherwiseAsNow();
        CHECK.end("AnewTest");
    }

    private static void flow(String call, ToLongFunction<DrinkingStones> asked) {
        FLOW.put(call, asked);
    }

    private static void otherwise(String call, ToLongFunction<DrinkingStones> asked) {
        OTHERWISE.put(call, asked);
    }

    /** Years of the first, the middle and the end of each choir. */
    private static void askOfYears() {
        for (int year : new int[] {1, 2, 4, 12}) {
            int y = year;
            for (int s = 0; s < 6; s++) {
                int stone = s;
                flow("has " + s + " " + y, x -> x.has(stone, y));
                flow("layers " + s + " " + y, x -> x.layers(stone, y));
            }
            flow("layer " + y, x -> x.layer(1, y, 1, 1));
            flow("thick " + y, x -> x.thick(0, y));
            flow("alike " + y, x -> x.alike(0, y));
            flow("dry " + y, x -> x.dry(y));
            flow("spread " + y, x -> x.spread(y));
            flow("full " + y, x -> x.full(y));
            flow("all " + y, x -> x.all(y));
            flow("deepest " + y, x -> x.deepest(y));
            flow("sorts " + y, x -> x.sorts(y));
            flow("stands " + y, x -> x.stands(y));
            flow("sorted " + y, x -> x.sorted(5, y));
            flow("sunk " + y, x -> x.sunk(0, y));
            flow("load " + y, x -> x.load(0, y));
            flow("lost " + y, x -> x.lost(y - 1));
            flow("tapped " + y, x -> x.tapped(y - 1));
        }
    }

    private static void askOfAll() {
        flow("wettest", DrinkingStones::wettest);
        flow("ruin", DrinkingStones::ruin);
        flow("gone", DrinkingStones::gone);
        flow("lowest", DrinkingStones::lowest);
        for (int i = 0; i < 6; i++) {
            int n = i;
            flow("heard " + i, x -> x.heard(n));
            flow("tells " + i, x -> x.tells(n));
            flow("drinks " + i, x -> x.drinks(n));
            flow("when " + i, x -> x.when(0, n));
            flow("bead " + i, x -> x.bead(n));
            flow("most " + i, x -> x.most(n));
            flow("sinks " + i, x -> x.sinks(n));
        }
        for (int i = 0; i < 3; i++) {
            int w = i;
            flow("falls " + i, x -> x.falls(w));
            flow("stones " + i, x -> x.stones(w));
        }
    }

    private static void askOtherwise() {
        otherwise("save 1", x -> x.save(1));
        otherwise("saves 0", x -> x.saves(0));
        otherwise("latest", DrinkingStones::latest);
        otherwise("blame", DrinkingStones::blame);
        otherwise("needed", DrinkingStones::needed);
        otherwise("needs 0", x -> x.needs(0));
        otherwise("needs 1", x -> x.needs(1));
        otherwise("heavy", DrinkingStones::heavy);
        otherwise("rooms", x -> x.rooms(0, 0));
        otherwise("least", x -> x.least(0, 0));
        otherwise("greatest", x -> x.greatest(0, 0));
        otherwise("ask", x -> x.ask(0, 0));
        otherwise("leaves", x -> x.leaves(0, 0));
        otherwise("laws", x -> x.laws(0));
        for (int law = 0; law <= 3; law++) {
            int l = law;
            otherwise("by " + law, x -> x.by(l));
        }
        otherwise("law", DrinkingStones::law);
        otherwise("worth 1", x -> x.worth(1));
        otherwise("worth 6", x -> x.worth(6));
        otherwise("worth 63", x -> x.worth(63));
        otherwise("share 0", x -> x.share(0, 0));
        otherwise("share 5", x -> x.share(5, 1));
        otherwise("rests", x -> x.rests(0, 1));
        otherwise("gets", x -> x.gets(1, 0, 0, 1));
        otherwise("gets bunged", x -> x.gets(2, 1, 1, 0));
        otherwise("chance", x -> x.chance(0, 0));
        otherwise("chance below", x -> x.chance(1, 1));
        otherwise("mean", x -> x.mean(0));
        otherwise("drawn", x -> x.drawn(7, 0));
        otherwise("drawn walls", x -> x.drawn(7, 1));
        otherwise("luck", x -> x.luck(3, 20, 0));
    }

    private static List<Long> answers(DrinkingStones x, Map<String, ToLongFunction<DrinkingStones>> questions) {
        List<Long> all = new ArrayList<>();
        for (ToLongFunction<DrinkingStones> one : questions.values()) {
            all.add(one.applyAsLong(x));
        }
        return all;
    }

    private static void same(String when, DrinkingStones got, DrinkingStones due, Map<String, ToLongFunction<DrinkingStones>> questions) {
        List<Long> is = answers(got, questions);
        List<Long> should = answers(due, questions);
        int i = 0;
        for (String call : questions.keySet()) {
            CHECK.eq(when + ": " + call, is.get(i), should.get(i));
            i++;
        }
    }

    /** By turns of what is and what would be, so that no object is used for more than 512 calls. */
    private static void sameAsNew(String when, Consumer<DrinkingStones> history, String text, Consumer<DrinkingStones> acts) {
        for (Map<String, ToLongFunction<DrinkingStones>> questions : List.of(FLOW, OTHERWISE)) {
            DrinkingStones got = new DrinkingStones();
            got.row(0, 0, 3);
            got.write(0, 1, 1);
            got.write(0, 2, 6);
            history.accept(got);
            DrinkingStones due = new DrinkingStones();
            due.row(0, 0, 3);
            due.write(0, 1, 1);
            due.write(0, 2, 6);
            tell(due, text);
            acts.accept(due);
            same(when, got, due, questions);
        }
    }

    private static void tell(DrinkingStones x, String text) {
        Check.feed(x, text);
        x.choir();
    }

    private static void askAll(DrinkingStones x) {
        answers(x, OTHERWISE);
        x.gone();
        x.sorts(1);
    }

    private static void rainAndTap(DrinkingStones x) {
        x.rains(5, 5, 0);
        x.taps(0, 7, 1);
        x.rains(2, 1, 1);
        x.taps(1, 60, 0);
    }

    private static final Consumer<DrinkingStones> NOTHING = x -> {
    };

    private static void otherChoirs() {
        for (String first : TEXTS) {
            for (String then : TEXTS) {
                sameAsNew("choir behind " + first, x -> {
                    tell(x, first);
                    rainAndTap(x);
                    askAll(x);
                    tell(x, then);
                }, then, NOTHING);
                sameAsNew("a fault behind it", x -> {
                    tell(x, first);
                    askAll(x);
                    tell(x, then + "#");
                    tell(x, "wall");
                }, first, NOTHING);
            }
        }
    }

    private static void otherActs() {
        for (String text : TEXTS) {
            sameAsNew("acts taken back", x -> {
                tell(x, text);
                rainAndTap(x);
                askAll(x);
                x.anew();
            }, text, NOTHING);
            sameAsNew("acts taken back one by one", x -> {
                tell(x, text);
                rainAndTap(x);
                int were = x.count(7);
                rainAndTap(x);
                askAll(x);
                while (x.count(7) > were) {
                    x.undo();
                }
            }, text, AnewTest::rainAndTap);
            sameAsNew("acts behind others", x -> {
                tell(x, text);
                askAll(x);
                x.rains(20, 3, 0);
                askAll(x);
                x.undo();
                rainAndTap(x);
            }, text, AnewTest::rainAndTap);
            sameAsNew("bears as told again", x -> {
                tell(x, text);
                askAll(x);
                int was = x.rate(0, 1);
                askAll(x);
                x.rate(0, was);
            }, text, NOTHING);
            sameAsNew("bears otherwise", x -> {
                tell(x, text);
                askAll(x);
                x.rate(0, 25);
            }, text, x -> x.rate(0, 25));
        }
    }

    private static void otherImages() {
        for (String kept : TEXTS) {
            for (String then : TEXTS) {
                sameAsNew("back to " + kept, x -> {
                    tell(x, kept);
                    rainAndTap(x);
                    x.image(1);
                    tell(x, then);
                    x.rains(3, 3, 0);
                    x.image(2);
                    askAll(x);
                    x.back(1);
                }, kept, AnewTest::rainAndTap);
                sameAsNew("back and on from " + kept, x -> {
                    tell(x, kept);
                    x.image(0);
                    rainAndTap(x);
                    x.rate(0, 3);
                    askAll(x);
                    x.back(0);
                    x.anew();
                    x.rate(0, 25);
                }, kept, x -> x.rate(0, 25));
            }
        }
    }

    /** Any question, then any other: it is as when it is asked alone. */
    private static void otherQuestions() {
        for (String text : new String[] {GREAT, Told.A}) {
            Map<String, ToLongFunction<DrinkingStones>> questions = new LinkedHashMap<>(OTHERWISE);
            questions.put("all", x -> x.all(4));
            questions.put("stands", x -> x.stands(4));
            for (Map.Entry<String, ToLongFunction<DrinkingStones>> first : questions.entrySet()) {
                for (Map.Entry<String, ToLongFunction<DrinkingStones>> then : questions.entrySet()) {
                    DrinkingStones x = Check.of(text);
                    Check.row(x, 0, 0, 1, 6);
                    DrinkingStones y = Check.of(text);
                    Check.row(y, 0, 0, 1, 6);
                    first.getValue().applyAsLong(x);
                    CHECK.eq(then.getKey() + " behind " + first.getKey(), then.getValue().applyAsLong(x), then.getValue().applyAsLong(y));
                }
            }
        }
    }

    /** What would be if nothing were otherwise is what is. */
    private static void otherwiseAsNow() {
        for (String text : TEXTS) {
            if (text.isEmpty()) {
                continue;
            }
            DrinkingStones x = Check.of(text);
            rainAndTap(x);
            int years = x.count(0);
            int stones = x.count(4);
            CHECK.eq("by the law told", x.by(x.count(1)), x.all(years));
            CHECK.eq("worth of all", x.worth((1 << stones) - 1), x.all(years));
            for (int s = 1; s < stones; s++) {
                int fell = x.falls(x.stone(s, 2)) >= 0 ? 10 : 0;
                CHECK.eq("gets unbunged", x.gets(s, 0, 0, 0), x.has(s, years) - fell);
            }
            for (int w = 0; w < x.count(3); w++) {
                int needs = x.needs(w);
                boolean enough = needs >= 0 && needs <= x.wall(w, 0);
                CHECK.eq("needs no more if it stands", enough ? 1 : 0, x.stands(years) >> w & 1);
            }
            for (int y = 0; y < years; y++) {
                CHECK.eq("saved by none if all stand", x.saves(y) == 0 ? 1 : 0, x.ruin() < 0 ? 1 : 0);
            }
            x.row(0, 0, 3 * stones);
            for (int s = 0; s < stones; s++) {
                x.write(0, 3 * s, s);
                x.write(0, 3 * s + 1, years);
                x.write(0, 3 * s + 2, x.has(s, years));
            }
            CHECK.eq("seen by the law told", x.laws(0) >> x.count(1) & 1, 1);
            for (int s = 0; s < stones; s++) {
                int room = x.stone(s, 0);
                CHECK.eq("seen by the room told", x.least(0, s) <= room && room <= x.greatest(0, s) ? 1 : 0, 1);
            }
        }
        // all rains told come, or none does
        DrinkingStones sure = Check.of(GREAT.replace("odds 6", "odds 10"));
        CHECK.eq("mean if all come", sure.mean(0), sure.all(12));
        for (int w = 0; w < 3; w++) {
            CHECK.eq("chance if all come", sure.chance(w, 0), sure.stands(12) >> w & 1);
            CHECK.eq("luck if all come", sure.luck(5, 20, w), 20 * (sure.stands(12) >> w & 1));
        }
        CHECK.eq("drawn if all come", sure.drawn(5, 1), sure.stands(12));
    }
}
