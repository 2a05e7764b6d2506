import java.util.ArrayList;
import java.util.List;
import java.util.Random;

/** Choirs by chance, with acts, against the plain model: promises 6 to 71. */
public final class RandomTest {
    private static final Check CHECK = new Check();
    private static String where = "";

    public static void main(String[] args) {
        for (int seed = 0; seed < 400; seed++) {
            Random random = new Random(seed);
            Model model = choir(random, seed);
            DrinkingStones x = Check.of(model.text());
            where = "seed " + seed + ": ";
            askTold(x, model);
            askFlow(x, model);
            askOther(x, model, random);
            // on a new object, so that none is used for more than 512 calls
            x = Check.of(model.text());
            act(x, model, random);
            askFlow(x, model);
            x = again(model);
            askOther(x, model, random);
            x = again(model);
            askSeen(x, model, random);
            if (seed % 4 == 0) {
                askChance(again(model), model, random);
            }
            askImages(again(model), model, random);
        }
        CHECK.end("RandomTest");
    }

    private static void eq(String what, long got, long want) {
        CHECK.eq(where + what, got, want);
    }

    private static int from(Random random, int low, int high) {
        return low + random.nextInt(high - low + 1);
    }

    private static Model choir(Random random, int seed) {
        Model m = new Model();
        m.years = from(random, 1, seed % 3 == 0 ? 12 : 5);
        m.law = random.nextInt(4);
        m.odds = from(random, 0, 10);
        int walls = seed % 20 == 19 ? 0 : from(random, 1, 3);
        int load = from(random, 5, 120);
        for (int w = 0; w < walls; w++) {
            m.walls.add(new int[] {from(random, 0, load), from(random, 1, random.nextBoolean() ? 8 : 60)});
        }
        int stones = walls == 0 ? 0 : from(random, seed % 15 == 0 ? 0 : 1, 6);
        int most = random.nextBoolean() ? 60 : 20;
        for (int s = 0; s < stones; s++) {
            m.stones.add(new int[] {from(random, 1, most), from(random, 1, random.nextBoolean() ? 1 : 4), random.nextInt(walls)});
        }
        int rains = from(random, 0, 8);
        int big = random.nextBoolean() ? 20 : 5;
        for (int r = 0; r < rains; r++) {
            m.rains.add(new int[] {from(random, 1, big), from(random, 1, 5), random.nextInt(Math.min(12, m.years + 1))});
        }
        int taps = stones == 0 ? 0 : from(random, 0, 6);
        for (int t = 0; t < taps; t++) {
            m.taps.add(new int[] {random.nextInt(stones), from(random, 1, random.nextBoolean() ? 60 : 10), random.nextInt(Math.min(12, m.years + 1))});
        }
        m.lines = 1 + walls + stones + rains + taps;
        return m;
    }

    private static void act(DrinkingStones x, Model m, Random random) {
        int acts = random.nextInt(8) == 0 ? 32 : random.nextInt(6);
        for (int a = 0; a < acts; a++) {
            int year = random.nextInt(m.years);
            int kind = m.stones.isEmpty() || random.nextBoolean() ? 0 : 1;
            boolean full = m.acts.size() >= 30;
            if (random.nextInt(6) == 0) {
                eq("undo", x.undo(), m.acts.isEmpty() ? -5 : m.acts.size() - 1);
                if (!m.acts.isEmpty()) m.acts.remove(m.acts.size() - 1);
            } else if (kind == 0) {
                int n = from(random, 1, 20);
                int sort = from(random, 1, 5);
                if (!full) m.acts.add(new int[] {0, n, sort, year});
                eq("rains", x.rains(n, sort, year), full ? -5 : m.go().all(m.years));
            } else {
                int stone = random.nextInt(m.stones.size());
                int n = from(random, 1, 60);
                if (!full) m.acts.add(new int[] {1, stone, n, year});
                eq("taps", x.taps(stone, n, year), full ? -5 : m.go().heard[year]);
            }
            eq("count(7)", x.count(7), m.acts.size());
        }
    }

    private static DrinkingStones again(Model m) {
        DrinkingStones x = Check.of(m.text());
        for (int[] a : m.acts) {
            if (a[0] == 0) x.rains(a[1], a[2], a[3]);
            else x.taps(a[1], a[2], a[3]);
        }
        return x;
    }

    private static void askTold(DrinkingStones x, Model m) {
        int[] counts = {m.years, m.law, m.odds, m.walls.size(), m.stones.size(), m.rains.size(), m.taps.size(), 0, m.lines, 0, 0};
        for (int i = 0; i < counts.length; i++) eq("count " + i, x.count(i), counts[i]);
        for (int w = 0; w < m.walls.size(); w++) {
            eq("wall", x.wall(w, 0), m.walls.get(w)[0]);
            eq("wall", x.wall(w, 1), m.walls.get(w)[1]);
            int bits = 0;
            for (int s = 0; s < m.stones.size(); s++) if (m.stones.get(s)[2] == w) bits |= 1 << s;
            eq("stones", x.stones(w), bits);
        }
        for (int s = 0; s < m.stones.size(); s++) for (int i = 0; i < 3; i++) eq("stone", x.stone(s, i), m.stones.get(s)[i]);
        for (int r = 0; r < m.rains.size(); r++) for (int i = 0; i < 3; i++) eq("rain", x.rain(r, i), m.rains.get(r)[i]);
    }

    /** Calls on a fresh object go in parts, as an object has 512 calls. */
    private static void askFlow(DrinkingStones first, Model m) {
        Model.Go g = m.go();
        for (int y = 0; y <= m.years; y++) {
            DrinkingStones x = y == 0 ? first : again(m);
            for (int s = 0; s < m.stones.size(); s++) askCell(x, m, g, s, y);
            askYear(again(m), m, g, y);
        }
        askWhole(again(m), m, g);
    }

    private static void askCell(DrinkingStones x, Model m, Model.Go g, int s, int y) {
        List<int[]> layers = g.layers(s, y);
        String at = " of " + s + " in " + y;
        eq("has" + at, x.has(s, y), g.has(s, y));
        eq("layers" + at, x.layers(s, y), layers.size());
        int thick = 0;
        for (int i = 0; i < layers.size(); i++) {
            eq("layer sort" + at, x.layer(s, y, i, 0), layers.get(i)[0]);
            eq("layer much" + at, x.layer(s, y, i, 1), layers.get(i)[1]);
            thick = Math.max(thick, layers.get(i)[1]);
        }
        eq("layer beyond" + at, x.layer(s, y, layers.size(), 0), -1);
        for (int sort = 1; sort <= 5; sort++) eq("sort" + at, x.sort(s, y, sort), g.sort(s, y, sort));
        eq("top" + at, x.top(s, y), layers.isEmpty() ? 0 : layers.get(layers.size() - 1)[0]);
        eq("under" + at, x.under(s, y), layers.isEmpty() ? 0 : layers.get(0)[0]);
        eq("left" + at, x.left(s, y), m.stones.get(s)[0] - g.has(s, y));
        eq("thick" + at, x.thick(s, y), thick);
        int alike = 0;
        for (int t = 0; t < m.stones.size(); t++) if (g.in.get(y).get(t).equals(g.in.get(y).get(s))) alike++;
        eq("alike" + at, x.alike(s, y), alike);
    }

    private static void askYear(DrinkingStones x, Model m, Model.Go g, int y) {
        int dry = 0;
        int full = 0;
        int sorts = 0;
        int most = 0;
        int fewest = 60;
        int deepest = -1;
        int[] sorted = new int[6];
        int[] load = new int[3];
        for (int s = 0; s < m.stones.size(); s++) {
            int has = g.has(s, y);
            if (has == 0) dry |= 1 << s;
            if (has == m.stones.get(s)[0]) full |= 1 << s;
            if (deepest < 0 || has > g.has(deepest, y)) deepest = s;
            most = Math.max(most, has);
            fewest = Math.min(fewest, has);
            for (int one : g.in.get(y).get(s)) {
                sorts |= 1 << one;
                sorted[one]++;
            }
            load[m.stones.get(s)[2]] += has;
        }
        eq("dry " + y, x.dry(y), dry);
        eq("full " + y, x.full(y), full);
        eq("sorts " + y, x.sorts(y), sorts);
        eq("spread " + y, x.spread(y), m.stones.isEmpty() ? 0 : most - fewest);
        eq("deepest " + y, x.deepest(y), deepest);
        eq("all " + y, x.all(y), g.all(y));
        for (int i = 1; i <= 5; i++) eq("sorted " + i + " " + y, x.sorted(i, y), sorted[i]);
        for (int w = 0; w < m.walls.size(); w++) {
            eq("load " + w + " " + y, x.load(w, y), load[w]);
            eq("sunk " + w + " " + y, x.sunk(w, y), g.sunk[y][w]);
        }
        eq("stands " + y, x.stands(y), g.stand(y));
        if (y < m.years) {
            eq("tapped " + y, x.tapped(y), g.heard[y]);
            eq("lost " + y, x.lost(y), g.lost[y]);
        } else {
            eq("tapped " + y, x.tapped(y), -2);
            eq("lost " + y, x.lost(y), -2);
        }
    }

    private static void askWhole(DrinkingStones x, Model m, Model.Go g) {
        int wettest = 0;
        int gone = 0;
        int ruin = -1;
        for (int y = 0; y < m.years; y++) {
            gone += g.lost[y];
            if (g.all(y + 1) - g.all(y) > g.all(wettest + 1) - g.all(wettest)) wettest = y;
            if (ruin < 0 && g.stand(y + 1) != (1 << m.walls.size()) - 1) ruin = y + 1;
        }
        eq("wettest", x.wettest(), wettest);
        eq("gone", x.gone(), gone);
        eq("ruin", x.ruin(), ruin);
        int lowest = -1;
        for (int w = 0; w < m.walls.size(); w++) {
            int falls = -1;
            for (int y = m.years; y >= 0; y--) if (g.fallen[y][w]) falls = y;
            eq("falls " + w, x.falls(w), falls);
            int sunk = g.sunk[m.years][w];
            if (sunk > 0 && (lowest < 0 || sunk > g.sunk[m.years][lowest])) lowest = w;
        }
        eq("lowest", x.lowest(), lowest);
        for (int sort = 1; sort <= 5; sort++) eq("heard " + sort, x.heard(sort), g.heardSort[sort]);
        for (int s = 0; s < m.stones.size(); s++) {
            int bead = -1;
            int most = 0;
            int sinks = 0;
            int[] when = {-1, -1, -1, -1, -1, -1};
            for (int y = m.years; y >= 0; y--) {
                if (g.has(s, y) == m.stones.get(s)[0]) bead = y;
                most = Math.max(most, g.has(s, y));
                if (y > 0 && g.has(s, y) < g.has(s, y - 1)) sinks++;
                for (int one : g.in.get(y).get(s)) when[one] = y;
            }
            eq("bead " + s, x.bead(s), bead);
            eq("most " + s, x.most(s), most);
            eq("sinks " + s, x.sinks(s), sinks);
            eq("tells " + s, x.tells(s), g.tells[s]);
            eq("drinks " + s, x.drinks(s), g.drinks[s]);
            for (int sort = 1; sort <= 5; sort++) eq("when " + s + " " + sort, x.when(s, sort), when[sort]);
        }
    }

    private static void askOther(DrinkingStones x, Model m, Random random) {
        for (int y = 0; y < m.years; y++) {
            int saves = m.saves(y);
            eq("saves " + y, x.saves(y), saves);
            eq("save " + y, x.save(y), saves < 0 ? -1 : Integer.bitCount(saves));
        }
        eq("latest", x.latest(), m.latest());
        eq("blame", x.blame(), m.blame());
        eq("needed", x.needed(), m.needed());
        for (int w = 0; w < m.walls.size(); w++) eq("needs " + w, x.needs(w), m.needs(w));
        eq("heavy", x.heavy(), m.heavy());
        for (int l = 0; l <= 3; l++) eq("by " + l, x.by(l), m.withLaw(l).go().all(m.years));
        eq("law", x.law(), m.bestLaw());
        for (int set = 0; set < 1 << m.stones.size(); set++) eq("worth " + set, x.worth(set), m.worth(set));
        for (int s = 0; s < m.stones.size(); s++) {
            long[] share = m.share(s);
            eq("share above " + s, x.share(s, 0), share[0]);
            eq("share below " + s, x.share(s, 1), share[1]);
            int t = random.nextInt(m.stones.size());
            eq("rests " + s + " " + t, x.rests(s, t), s == t ? -2 : m.rests(s, t));
            for (int pair = 0; pair < 4 && s != t; pair++) {
                eq("gets " + s + " " + t + " " + pair, x.gets(s, t, pair & 1, pair >> 1), m.gets(s, t, pair & 1, pair >> 1));
            }
        }
        // asked again: a row of other flows must not have changed what is
        eq("all again", x.all(m.years), m.go().all(m.years));
    }

    private static void askSeen(DrinkingStones x, Model m, Random random) {
        if (m.stones.isEmpty()) return;
        for (int round = 0; round < 2; round++) {
            int stone = random.nextInt(m.stones.size());
            Model truth = round == 0 ? m.withRoom(stone, from(random, 1, 60)) : m.withLaw(random.nextInt(4));
            Model.Go g = truth.go();
            int[] row = new int[3 * random.nextInt(4)];
            for (int i = 0; i < row.length; i += 3) {
                row[i] = random.nextInt(m.stones.size());
                row[i + 1] = random.nextInt(m.years + 1);
                row[i + 2] = random.nextInt(12) == 0 ? random.nextInt(61) : g.has(row[i], row[i + 1]);
            }
            Check.row(x, round, row);
            List<Integer> rooms = m.rooms(row, stone);
            eq("rooms", x.rooms(round, stone), rooms.size());
            eq("least", x.least(round, stone), rooms.isEmpty() ? -1 : rooms.get(0));
            eq("greatest", x.greatest(round, stone), rooms.isEmpty() ? -1 : rooms.get(rooms.size() - 1));
            eq("laws", x.laws(round), m.laws(row));
            int[] ask = m.ask(row, stone);
            eq("ask", x.ask(round, stone), ask[0]);
            eq("leaves", x.leaves(round, stone), ask[1]);
        }
    }

    private static void askChance(DrinkingStones x, Model m, Random random) {
        for (int w = -1; w < m.walls.size(); w++) {
            long[] mean = m.mean(w);
            eq("above " + w, w < 0 ? x.mean(0) : x.chance(w, 0), mean[0]);
            eq("below " + w, w < 0 ? x.mean(1) : x.chance(w, 1), mean[1]);
        }
        int[] seeds = {0, 1, 2000000000, from(random, 0, 2000000000), from(random, 0, 2000000000)};
        for (int seed : seeds) {
            eq("drawn rains " + seed, x.drawn(seed, 0), m.drawn(seed));
            eq("drawn walls " + seed, x.drawn(seed, 1), m.withRains(m.drawn(seed)).go().stand(m.years));
            int n = from(random, 1, 20);
            for (int w = 0; w < m.walls.size(); w++) {
                int luck = 0;
                for (int i = 0; i < n; i++) luck += m.withRains(m.drawn((long) seed + i)).go().stand(m.years) >> w & 1;
                eq("luck " + seed, x.luck(seed, n, w), luck);
            }
        }
    }

    /** Images, acts taken back and other bears, in a mixed order. */
    private static void askImages(DrinkingStones x, Model start, Random random) {
        List<Model> images = new ArrayList<>();
        for (int k = 0; k < 3; k++) images.add(null);
        Model m = start.copy();
        for (int step = 0; step < 25; step++) {
            int k = random.nextInt(3);
            switch (random.nextInt(6)) {
                case 0 -> {
                    eq("image", x.image(k), 0);
                    images.set(k, m.copy());
                }
                case 1 -> {
                    eq("back", x.back(k), images.get(k) == null ? -6 : 0);
                    if (images.get(k) != null) m = images.get(k).copy();
                }
                case 2 -> {
                    eq("anew", x.anew(), m.acts.size());
                    m.acts.clear();
                }
                case 3 -> {
                    if (!m.walls.isEmpty()) {
                        int w = random.nextInt(m.walls.size());
                        int n = from(random, 0, 300);
                        eq("rate", x.rate(w, n), m.acts.isEmpty() ? m.walls.get(w)[0] : -5);
                        if (m.acts.isEmpty()) m.walls.get(w)[0] = n;
                        eq("wall rated", x.wall(w, 0), m.walls.get(w)[0]);
                    }
                }
                default -> act(x, m, random);
            }
            if (step % 5 == 4) {
                eq("all in images", x.all(m.years), m.go().all(m.years));
                eq("stands in images", x.stands(m.years), m.go().stand(m.years));
                eq("worth in images", x.worth((1 << m.stones.size()) - 1), m.worth(-1));
                eq("by in images", x.by(m.law), m.go().all(m.years));
            }
        }
    }
}
