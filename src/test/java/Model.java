import java.math.BigInteger;
import java.util.ArrayList;
import java.util.List;

/** The document told a second time, as plainly as can be: a stone is a list of single measures. */
final class Model {
    int years;
    int law;
    int odds;
    int lines;
    final List<int[]> walls = new ArrayList<>();  // bears, gives
    final List<int[]> stones = new ArrayList<>(); // room, wide, wall
    final List<int[]> rains = new ArrayList<>();  // n, sort, year
    final List<int[]> taps = new ArrayList<>();   // stone, n, year
    final List<int[]> acts = new ArrayList<>();   // 0 rain / 1 tap, then as above

    Model copy() {
        Model m = new Model();
        m.years = years;
        m.law = law;
        m.odds = odds;
        m.lines = lines;
        for (int[] a : walls) m.walls.add(a.clone());
        for (int[] a : stones) m.stones.add(a.clone());
        for (int[] a : rains) m.rains.add(a.clone());
        for (int[] a : taps) m.taps.add(a.clone());
        for (int[] a : acts) m.acts.add(a.clone());
        return m;
    }

    String text() {
        StringBuilder b = new StringBuilder("choir years " + years + " law " + law + " odds " + odds + ";");
        for (int[] w : walls) b.append("wall bears " + w[0] + " gives " + w[1] + ";");
        for (int[] s : stones) b.append("stone room " + s[0] + " wide " + s[1] + " on " + s[2] + ";");
        for (int[] r : rains) b.append("rain " + r[0] + " of " + r[1] + " at " + r[2] + ";");
        for (int[] t : taps) b.append("tap " + t[0] + " " + t[1] + " at " + t[2] + ";");
        return b.toString();
    }

    /** One way that it goes. */
    final class Go {
        boolean[] bunged = new boolean[stones.size()];
        int alone = -1;
        int saveYear = -1;
        int saveSet = 0;
        List<List<List<Integer>>> in = new ArrayList<>();
        int[][] sunk = new int[years + 1][walls.size()];
        boolean[][] fallen = new boolean[years + 1][walls.size()];
        int[] lost = new int[years];
        int[] heard = new int[years];
        int[] heardSort = new int[6];
        int[] tells = new int[stones.size()];
        int[] drinks = new int[stones.size()];
        private List<List<Integer>> water = new ArrayList<>();
        private boolean[] down = new boolean[walls.size()];
        private int[] deep = new int[walls.size()];
        private int year;

        Go run() {
            for (int s = 0; s < stones.size(); s++) water.add(new ArrayList<>());
            note(0);
            for (year = 0; year < years; year++) {
                for (int s = 0; s < stones.size(); s++) {
                    if (year == saveYear && (saveSet >> s & 1) == 1) water.get(s).clear();
                }
                for (int[] r : rains) if (r[2] == year) fall(r[0], r[1]);
                for (int[] a : acts) if (a[0] == 0 && a[3] == year) fall(a[1], a[2]);
                for (int[] t : taps) if (t[2] == year) tap(t[0], t[1]);
                for (int[] a : acts) if (a[0] == 1 && a[3] == year) tap(a[1], a[2]);
                for (int w = 0; w < walls.size(); w++) weigh(w);
                note(year + 1);
            }
            return this;
        }

        private void note(int y) {
            List<List<Integer>> copy = new ArrayList<>();
            for (List<Integer> l : water) copy.add(new ArrayList<>(l));
            in.add(copy);
            sunk[y] = deep.clone();
            fallen[y] = down.clone();
        }

        private void fall(int n, int sort) {
            for (int s = 0; s < stones.size(); s++) drink(s, n * stones.get(s)[1], sort);
        }

        private void drink(int s, int n, int sort) {
            if (n == 0) return;
            int wall = stones.get(s)[2];
            if (down[wall] || (alone >> s & 1) == 0) {
                lost[year] += n;
                return;
            }
            List<Integer> l = water.get(s);
            int room = bunged[s] ? 0 : stones.get(s)[0];
            int rest = n;
            if (law == 3) {
                while (rest > room) {
                    lost[year]++;
                    rest--;
                }
                while (l.size() + rest > room) {
                    l.remove(0);
                    lost[year]++;
                }
            }
            while (rest > 0 && l.size() < room) {
                l.add(sort);
                drinks[s]++;
                rest--;
            }
            int next = -1;
            for (int t = stones.size() - 1; t > s; t--) {
                if (law == 2 || law == 1 && stones.get(t)[2] == wall) next = t;
            }
            if (next < 0) lost[year] += rest;
            else drink(next, rest, sort);
        }

        private void tap(int s, int n) {
            for (int i = 0; i < n && !water.get(s).isEmpty(); i++) {
                int sort = water.get(s).remove(0);
                heard[year]++;
                heardSort[sort]++;
                tells[s] |= 1 << sort;
            }
        }

        private void weigh(int w) {
            int load = 0;
            for (int s = 0; s < stones.size(); s++) if (stones.get(s)[2] == w) load += water.get(s).size();
            if (down[w] || load <= walls.get(w)[0]) return;
            deep[w] += (load - walls.get(w)[0]) / 5 + 1;
            if (deep[w] < walls.get(w)[1]) return;
            down[w] = true;
            for (int s = 0; s < stones.size(); s++) {
                if (stones.get(s)[2] == w) {
                    lost[year] += water.get(s).size();
                    water.get(s).clear();
                }
            }
        }

        int has(int s, int y) {
            return in.get(y).get(s).size();
        }

        int all(int y) {
            int sum = 0;
            for (List<Integer> l : in.get(y)) sum += l.size();
            return sum;
        }

        int stand(int y) {
            int bits = 0;
            for (int w = 0; w < walls.size(); w++) if (!fallen[y][w]) bits |= 1 << w;
            return bits;
        }

        int standing() {
            return Integer.bitCount(stand(years));
        }

        /** Layers from the lowest: sort, measures. */
        List<int[]> layers(int s, int y) {
            List<int[]> out = new ArrayList<>();
            for (int sort : in.get(y).get(s)) {
                if (out.isEmpty() || out.get(out.size() - 1)[0] != sort) out.add(new int[] {sort, 0});
                out.get(out.size() - 1)[1]++;
            }
            return out;
        }

        int sort(int s, int y, int sort) {
            int n = 0;
            for (int one : in.get(y).get(s)) if (one == sort) n++;
            return n;
        }
    }

    Go go() {
        return new Go().run();
    }

    int saves(int year) {
        int best = -1;
        for (int set = 0; set < 1 << stones.size(); set++) {
            Go g = new Go();
            g.saveYear = year;
            g.saveSet = set;
            boolean good = g.run().standing() == walls.size();
            if (good && (best < 0 || Integer.bitCount(set) < Integer.bitCount(best))) best = set;
        }
        return best;
    }

    int latest() {
        int best = -1;
        for (int y = 0; y < years; y++) if (saves(y) >= 0) best = y;
        return best;
    }

    int blame() {
        int best = -1;
        int most = go().standing();
        for (int r = 0; r < rains.size(); r++) {
            Model m = copy();
            m.rains.remove(r);
            int n = m.go().standing();
            if (n > most) {
                most = n;
                best = r;
            }
        }
        return best;
    }

    int needed() {
        int best = -1;
        int least = go().standing();
        for (int t = 0; t < taps.size(); t++) {
            Model m = copy();
            m.taps.remove(t);
            int n = m.go().standing();
            if (n < least) {
                least = n;
                best = t;
            }
        }
        return best;
    }

    int needs(int wall) {
        for (int b = 0; b <= 300; b++) {
            Model m = copy();
            m.walls.get(wall)[0] = b;
            if (!m.go().fallen[years][wall]) return b;
        }
        return -1;
    }

    int heavy() {
        int best = -1;
        int least = go().all(years);
        for (int s = 0; s < stones.size(); s++) {
            Go g = new Go();
            g.bunged[s] = true;
            int n = g.run().all(years);
            if (n < least) {
                least = n;
                best = s;
            }
        }
        return best;
    }

    boolean asSeen(Go g, int[] row) {
        for (int i = 0; i < row.length; i += 3) if (g.has(row[i], row[i + 1]) != row[i + 2]) return false;
        return true;
    }

    List<Integer> rooms(int[] row, int stone) {
        List<Integer> out = new ArrayList<>();
        for (int r = 1; r <= 60; r++) if (asSeen(withRoom(stone, r).go(), row)) out.add(r);
        return out;
    }

    Model withRoom(int stone, int room) {
        Model m = copy();
        m.stones.get(stone)[0] = room;
        return m;
    }

    Model withLaw(int l) {
        Model m = copy();
        m.law = l;
        return m;
    }

    /** The year to ask of, and how many rooms are left at worst then. */
    int[] ask(int[] row, int stone) {
        List<Go> ways = new ArrayList<>();
        for (int r : rooms(row, stone)) ways.add(withRoom(stone, r).go());
        int best = -1;
        int fewest = ways.size();
        for (int y = 0; y <= years; y++) {
            int worst = 0;
            for (int held = 0; held <= 60; held++) {
                int n = 0;
                for (Go g : ways) if (g.has(stone, y) == held) n++;
                worst = Math.max(worst, n);
            }
            if (worst < fewest) {
                fewest = worst;
                best = y;
            }
        }
        return new int[] {best, fewest};
    }

    int laws(int[] row) {
        int bits = 0;
        for (int l = 0; l <= 3; l++) if (asSeen(withLaw(l).go(), row)) bits |= 1 << l;
        return bits;
    }

    int bestLaw() {
        int best = 0;
        for (int l = 1; l <= 3; l++) if (withLaw(l).go().standing() > withLaw(best).go().standing()) best = l;
        return best;
    }

    int worth(int set) {
        Go g = new Go();
        g.alone = set;
        return g.run().all(years);
    }

    /** The sum over all orders of what a stone brings; the mean has the number of orders below it. */
    long[] share(int stone) {
        int[] worths = new int[1 << stones.size()];
        for (int set = 0; set < worths.length; set++) worths[set] = worth(set);
        return lowest(BigInteger.valueOf(orders(0, stone, worths)), BigInteger.valueOf(orders(0, -1, worths)));
    }

    private long orders(int set, int stone, int[] worths) {
        if (set == worths.length - 1) return stone < 0 ? 1 : 0;
        long sum = 0;
        for (int s = 0; s < stones.size(); s++) {
            if ((set >> s & 1) == 1) continue;
            int more = set | 1 << s;
            if (s == stone) sum += (worths[more] - worths[set]) * orders(more, -1, worths);
            else sum += orders(more, stone, worths);
        }
        return sum;
    }

    static long[] lowest(BigInteger above, BigInteger below) {
        BigInteger g = above.gcd(below);
        return new long[] {above.divide(g).longValueExact(), below.divide(g).longValueExact()};
    }

    int gets(int a, int b, int x, int y) {
        Go g = new Go();
        g.bunged[a] = x == 1;
        g.bunged[b] = y == 1;
        g.run();
        return g.has(a, years) + 7 * x - (g.fallen[years][stones.get(a)[2]] ? 10 : 0);
    }

    int rests(int a, int b) {
        int bits = 0;
        for (int pair = 0; pair < 4; pair++) {
            int x = pair & 1;
            int y = pair >> 1;
            if (gets(a, b, x, y) < gets(a, b, 1 - x, y)) continue;
            if (gets(b, a, y, x) < gets(b, a, 1 - y, x)) continue;
            bits |= 1 << pair;
        }
        return bits;
    }

    Model withRains(int set) {
        Model m = copy();
        m.rains.clear();
        for (int r = 0; r < rains.size(); r++) if ((set >> r & 1) == 1) m.rains.add(rains.get(r));
        return m;
    }

    /** The mean of a wall's standing (wall 0 ..), or of all measures (-1). */
    long[] mean(int wall) {
        BigInteger above = BigInteger.ZERO;
        for (int set = 0; set < 1 << rains.size(); set++) {
            BigInteger weight = BigInteger.ONE;
            for (int r = 0; r < rains.size(); r++) {
                weight = weight.multiply(BigInteger.valueOf((set >> r & 1) == 1 ? odds : 10 - odds));
            }
            if (weight.signum() == 0) continue;
            Go g = withRains(set).go();
            int value = wall < 0 ? g.all(years) : g.stand(years) >> wall & 1;
            above = above.add(weight.multiply(BigInteger.valueOf(value)));
        }
        return lowest(above, BigInteger.TEN.pow(rains.size()));
    }

    int drawn(long seed) {
        BigInteger x = BigInteger.valueOf(seed);
        int bits = 0;
        for (int r = 0; r < rains.size(); r++) {
            x = x.multiply(BigInteger.valueOf(1103515245)).add(BigInteger.valueOf(12345)).mod(BigInteger.valueOf(2147483648L));
            if (x.divide(BigInteger.valueOf(65536)).mod(BigInteger.TEN).intValue() < odds) bits |= 1 << r;
        }
        return bits;
    }
}
