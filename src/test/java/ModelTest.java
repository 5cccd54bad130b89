import java.util.ArrayList;
import java.util.List;
import java.util.Map;
import java.util.Random;
import java.util.Set;
import java.util.TreeMap;
import java.util.TreeSet;

/** Streets drawn with fixed seeds: every call that only asks is held against the Model. */
public final class ModelTest {
    /** Trees of up to four CARS by their CODES. */
    static final Map<Integer, Map<List<Integer>, int[]>> TREES = new TreeMap<>();

    static {
        for (int n = 1; n <= 4; n++) {
            TREES.put(n, Model.treesByCode(n));
        }
    }

    public static void main(String[] args) {
        Random random = new Random(20261118);
        for (int i = 0; i < 1500; i++) {
            Model m = draw(random);
            ParkingTrees x = new ParkingTrees();
            Kit.due("street()", Kit.tell(x, m.text()), 1 + m.cars() + m.joins.size());
            if (random.nextInt(3) == 0) {
                act(x, m, random);
            }
            holdAll(x, m, random);
        }
        Kit.finish();
    }

    /** Every call that only asks, of a street that is told and acted as the Model has it. */
    static void holdAll(ParkingTrees x, Model m, Random random) {
        parking(x, m);
        rows(x, m);
        ring(x, m);
        trees(x, m);
        codes(x, m, random);
        blocks(x, m);
        fences(x, m);
        advice(x, m);
        seen(x, m, random);
        shares(x, m);
        games(x, m);
        chances(x, m);
        mornings(x, m, random);
    }

    private static Model draw(Random random) {
        Model m = new Model();
        m.places = 1 + random.nextInt(8);
        m.law = random.nextInt(4);
        m.odds = random.nextInt(11);
        boolean lawful = random.nextInt(2) == 0;
        int cars = lawful ? m.places : random.nextInt(m.places + 1);
        List<Integer> wishes = new ArrayList<>();
        do {
            wishes.clear();
            for (int i = 0; i < cars; i++) {
                wishes.add(1 + random.nextInt(m.places));
            }
        } while (lawful && !Model.lawfulRow(wishes));
        m.wishes.addAll(wishes);
        int spread = random.nextBoolean() ? 100 : 22;
        for (int i = 0; i < cars; i++) {
            m.stands.add(random.nextInt(spread));
        }
        List<Set<Integer>> blocks = m.startBlocks();
        int tries = random.nextInt(60);
        for (int i = 0; i < tries; i++) {
            int a = 1 + random.nextInt(m.places + 1);
            int b = 1 + random.nextInt(m.places + 1);
            if (Model.mayJoin(blocks, a, b)) {
                blocks = Model.joined(blocks, a, b);
                m.joins.add(new int[] {a, b});
            }
        }
        return m;
    }

    private static void act(ParkingTrees x, Model m, Random random) {
        for (int i = 0; i < 3 && m.cars() > 0; i++) {
            int car = random.nextInt(m.cars());
            int other = random.nextInt(m.cars());
            if (random.nextBoolean() && car != other) {
                int wish = m.wishes.get(car);
                m.wishes.set(car, m.wishes.get(other));
                m.wishes.set(other, wish);
                Kit.due("trades()", x.trades(car, other), Model.lostOf(m.parked()));
            } else {
                int place = 1 + random.nextInt(m.places);
                m.wishes.set(car, place);
                Kit.due("wants()", x.wants(car, place), Model.lostOf(m.parked()));
            }
        }
    }

    private static void parking(ParkingTrees x, Model m) {
        Map<Integer, Integer> at = m.parked();
        int lost = 0;
        int lucky = 0;
        int worst = -1;
        int most = -1;
        boolean[] taken = new boolean[m.places + 2];
        for (int car = 0; car < m.cars(); car++) {
            int spot = at.get(car);
            int steps = spot == 0 ? -1 : Math.abs(spot - m.wishes.get(car));
            Kit.due("car(,0)", x.car(car, 0), m.wishes.get(car));
            Kit.due("car(,1)", x.car(car, 1), m.stands.get(car));
            Kit.due("place()", x.place(car), spot == 0 ? -1 : spot);
            Kit.due("steps()", x.steps(car), steps);
            lost |= spot == 0 ? 1 << car : 0;
            lucky |= steps == 0 ? 1 << car : 0;
            if (steps > most) {
                most = steps;
                worst = car;
            }
            taken[spot] = true;
        }
        taken[0] = false;
        int free = 0;
        int runs = 0;
        for (int p = 1; p <= m.places; p++) {
            free |= taken[p] ? 0 : 1 << p - 1;
            runs += taken[p] && !taken[p - 1] ? 1 : 0;
            int holder = -1;
            for (int car = 0; car < m.cars(); car++) {
                holder = at.get(car) == p ? car : holder;
            }
            Kit.due("holder()", x.holder(p), holder);
        }
        Kit.due("lost()", x.lost(), lost);
        Kit.due("free()", x.free(), free);
        Kit.due("lucky()", x.lucky(), lucky);
        Kit.due("sum()", x.sum(), Model.stepsOf(Model.asMap(m.wishes), at));
        Kit.due("worst()", x.worst(), worst);
        Kit.due("runs()", x.runs(), runs);
    }

    private static void rows(ParkingTrees x, Model m) {
        List<Integer> sorted = new ArrayList<>(m.wishes);
        sorted.sort(null);
        for (int k = 0; k <= m.places; k++) {
            Kit.due("sorted()", x.sorted(k), k < sorted.size() ? sorted.get(k) : -1);
        }
        int breaks = 0;
        boolean prime = m.lawful();
        for (int k = 1; k <= m.places; k++) {
            int below = 0;
            for (int wish : m.wishes) {
                below += wish <= k ? 1 : 0;
            }
            breaks += below == k ? 1 : 0;
            prime &= k == m.places || below > k;
        }
        Kit.due("lawful()", x.lawful(), m.lawful() ? 1 : 0);
        Kit.due("prime()", x.prime(), prime ? 1 : 0);
        Kit.due("breaks()", x.breaks(), m.lawful() ? breaks : -1);
        if (Math.pow(m.places, m.cars()) < 4000) {
            Kit.due("likes()", x.likes(), m.likes());
        }
    }

    private static void ring(ParkingTrees x, Model m) {
        int[] at = m.ringOf(0);
        int hole = 1;
        while (Model.has(at, hole)) {
            hole++;
        }
        int shifts = 0;
        for (int s = 0; s <= m.places; s++) {
            shifts |= Model.has(m.ringOf(s), m.places + 1) ? 0 : 1 << s;
            for (int car = 0; car < m.cars(); car++) {
                Kit.due("shifted()", x.shifted(car, s), (m.wishes.get(car) - 1 + s) % (m.places + 1) + 1);
            }
        }
        for (int car = 0; car < m.cars(); car++) {
            Kit.due("ring()", x.ring(car), at[car]);
        }
        Kit.due("hole()", x.hole(), hole);
        Kit.due("shifts()", x.shifts(), shifts);
    }

    private static void trees(ParkingTrees x, Model m) {
        boolean lawful = m.lawful();
        int n = m.places;
        List<Integer> visits = new ArrayList<>();
        int[] tree = lawful ? Model.treeByWishes(m.wishes) : null;
        int[] search = lawful ? Model.treeBySearch(m.wishes, visits) : null;
        List<Integer> order = Model.orderByWishes(m.wishes);
        for (int car = 0; car < m.cars(); car++) {
            Kit.due("parent()", x.parent(car), lawful ? tree[car + 1] : -1);
            Kit.due("depth()", x.depth(car), lawful ? Model.depthOf(tree, car + 1) : -1);
            Kit.due("burnt()", x.burnt(car), lawful ? search[car + 1] : -1);
        }
        int leaves = 0;
        for (int node = 0; node <= m.cars(); node++) {
            int kids = 0;
            for (int v = 1; lawful && v <= n; v++) {
                kids |= tree[v] == node ? 1 << v - 1 : 0;
            }
            leaves |= kids == 0 && node > 0 ? 1 << node - 1 : 0;
            Kit.due("kids()", x.kids(node), lawful ? kids : -1);
        }
        Kit.due("kids() beyond", x.kids(m.cars() + 1), -2);
        for (int i = 0; i <= n; i++) {
            Kit.due("queue()", x.queue(i), lawful ? order.get(i) : -1);
            Kit.due("visit()", x.visit(i), lawful ? visits.get(i) : -1);
            List<Integer> code = lawful ? Model.codeOf(tree) : List.of();
            Kit.due("code()", x.code(i), i < code.size() ? code.get(i) : -1);
        }
        Kit.due("leaves()", x.leaves(), lawful ? leaves : -1);
        Kit.due("inversions()", x.inversions(), lawful ? Model.turnedOf(tree) : -1);
        Kit.due("turned()", x.turned(), lawful ? Model.turnedOf(search) : -1);
        if (lawful) {
            Kit.due("as many as STEPS", x.turned(), x.by(0));
            roundTrip(x, m, Model.codeOf(tree), Model.codeOf(search));
        }
    }

    /** Both trees, told by their CODES, give the wishes back. */
    private static void roundTrip(ParkingTrees x, Model m, List<Integer> code, List<Integer> searchCode) {
        x.row(2, 0, m.places - 1);
        x.row(3, 3, m.places - 1);
        for (int i = 0; i < m.places - 1; i++) {
            x.write(2, i, code.get(i));
            x.write(3, i, searchCode.get(i));
        }
        for (int car = 0; car < m.places; car++) {
            Kit.due("wish()", x.wish(2, car), m.wishes.get(car));
            Kit.due("regain()", x.regain(3, car), m.wishes.get(car));
            Kit.due("above()", x.above(2, car), x.parent(car));
            Kit.due("above()", x.above(3, car), x.burnt(car));
        }
        Kit.due("upset()", x.upset(2), x.inversions());
        Kit.due("upset()", x.upset(3), x.turned());
    }

    private static void codes(ParkingTrees x, Model m, Random random) {
        if (m.places > 4) {
            return;
        }
        List<Integer> code = new ArrayList<>();
        x.row(1, 1, m.places - 1);
        for (int i = 0; i < m.places - 1; i++) {
            code.add(random.nextInt(m.places + 1));
            x.write(1, i, code.get(i) + 65536L);
        }
        int[] tree = TREES.get(m.places).get(code);
        Kit.due("upset()", x.upset(1), Model.turnedOf(tree));
        List<Integer> wish = new ArrayList<>();
        List<Integer> regain = new ArrayList<>();
        for (int car = 0; car < m.places; car++) {
            Kit.due("above()", x.above(1, car), tree[car + 1]);
            wish.add(x.wish(1, car));
            regain.add(x.regain(1, car));
        }
        Kit.due("wishes are LAWFUL", Model.lawfulRow(wish) ? 1 : 0, 1);
        Kit.due("wishes are LAWFUL", Model.lawfulRow(regain) ? 1 : 0, 1);
        int[] byWish = Model.treeByWishes(wish);
        int[] bySearch = Model.treeBySearch(regain, new ArrayList<>());
        for (int v = 1; v <= m.places; v++) {
            Kit.due("tree by wishes", byWish[v], tree[v]);
            Kit.due("tree by SEARCH", bySearch[v], tree[v]);
        }
    }

    static void blocks(ParkingTrees x, Model m) {
        List<Set<Integer>> blocks = m.startBlocks();
        List<Integer> labels = new ArrayList<>();
        for (int i = 0; i < m.joins.size(); i++) {
            int[] join = m.joins.get(i);
            labels.add(Model.labelOf(blocks, join[0], join[1]));
            Kit.due("label()", x.label(i), labels.get(i));
            blocks = Model.joined(blocks, join[0], join[1]);
            Kit.due("merged()", x.merged(i), Model.bitsOf(Model.blockOf(blocks, join[0])));
        }
        Kit.due("label() beyond", x.label(m.joins.size()), -2);
        Kit.due("merged() beyond", x.merged(m.joins.size()), -2);
        Kit.due("blocks()", x.blocks(), blocks.size());
        Set<Set<Integer>> pairs = new java.util.HashSet<>();
        for (int a = 1; a <= m.places + 1; a++) {
            Kit.due("block()", x.block(a), Model.bitsOf(Model.blockOf(blocks, a)));
            for (int b = 1; b <= m.places + 1; b++) {
                boolean may = Model.mayJoin(blocks, a, b);
                Kit.due("may()", x.may(a, b), may ? 1 : 0);
                Kit.due("labels()", x.labels(a, b), may ? Model.labelOf(blocks, a, b) : -1);
                if (may) {
                    pairs.add(Model.joined(blocks, a, b).get(0));
                }
            }
        }
        Kit.due("next()", x.next(), pairs.size());
        boolean chain = blocks.size() == 1 && Model.lawfulRow(labels);
        Kit.due("chain()", x.chain(), chain ? 1 : 0);
    }

    static void fences(ParkingTrees x, Model m) {
        int n = m.cars();
        int[] region = new int[n];
        int all = 0;
        int astride = 0;
        int far = -1;
        for (int i = 0; i < n; i++) {
            far = far < 0 || m.stands.get(i) > m.stands.get(far) ? i : far;
            for (int j = i + 1; j < n; j++) {
                int ahead = m.stands.get(i) - m.stands.get(j);
                int crossed = 0;
                if (ahead < 0) {
                    region[i]++;
                    crossed++;
                }
                if (ahead > 10) {
                    region[j]++;
                    crossed++;
                }
                astride += ahead == 0 || ahead == 10 ? 1 : 0;
                all += crossed;
                Kit.due("across()", x.across(i, j), crossed);
                Kit.due("across()", x.across(j, i), crossed);
            }
        }
        for (int i = 0; i < n; i++) {
            Kit.due("region()", x.region(i), region[i] + 1);
        }
        Kit.due("fences()", x.fences(), all);
        Kit.due("far()", x.far(), far);
        Kit.due("astride()", x.astride(), astride);
    }

    private static void advice(ParkingTrees x, Model m) {
        int lostNow = Model.lostOf(m.parked());
        int stepsNow = m.stepsOfRow(m.wishes, m.law);
        TreeMap<Integer, TreeSet<Integer>> mends = new TreeMap<>();
        TreeMap<Integer, TreeSet<Integer>> swaps = new TreeMap<>();
        TreeMap<Integer, TreeSet<Integer>> blames = new TreeMap<>();
        for (int car = 0; car < m.cars(); car++) {
            for (int p = 1; p <= m.places; p++) {
                List<Integer> row = new ArrayList<>(m.wishes);
                row.set(car, p);
                int lost = Model.lostOf(Model.park(m.places, m.law, Model.asMap(row)));
                if (lost < lostNow) {
                    mends.computeIfAbsent(lost, k -> new TreeSet<>()).add(10 * car + p);
                }
            }
            for (int other = car + 1; other < m.cars(); other++) {
                List<Integer> row = new ArrayList<>(m.wishes);
                row.set(car, m.wishes.get(other));
                row.set(other, m.wishes.get(car));
                int lost = Model.lostOf(Model.park(m.places, m.law, Model.asMap(row)));
                int steps = m.stepsOfRow(row, m.law);
                if (lost <= lostNow && steps < stepsNow) {
                    swaps.computeIfAbsent(steps, k -> new TreeSet<>()).add(10 * car + other);
                }
            }
            int without = m.worthOf((1 << m.cars()) - 1 - (1 << car));
            int own = m.parked().get(car) == 0 ? 0 : Math.abs(m.parked().get(car) - m.wishes.get(car));
            if (without < stepsNow - own) {
                blames.computeIfAbsent(without, k -> new TreeSet<>()).add(car);
            }
        }
        Kit.due("mend()", x.mend(), first(mends));
        Kit.due("swap()", x.swap(), first(swaps));
        Kit.due("blame()", x.blame(), first(blames));
    }

    private static int first(TreeMap<Integer, TreeSet<Integer>> found) {
        return found.isEmpty() ? -1 : found.firstEntry().getValue().first();
    }

    private static void seen(ParkingTrees x, Model m, Random random) {
        int best = -1;
        int[] key = new int[4];
        for (int law = 0; law < 4; law++) {
            key[law] = 1000 * Model.lostOf(Model.park(m.places, law, Model.asMap(m.wishes))) + m.stepsOfRow(m.wishes, law);
            best = best < 0 || key[law] < key[best] ? law : best;
            Kit.due("by()", x.by(law), m.stepsOfRow(m.wishes, law));
        }
        Kit.due("law()", x.law(), best);
        int[] row = new int[2 * (m.cars() == 0 ? 0 : random.nextInt(4))];
        for (int i = 0; i < row.length; i += 2) {
            row[i] = random.nextInt(m.cars());
            row[i + 1] = random.nextInt(4) == 0 ? random.nextInt(m.places + 1) : m.parked().get(row[i]);
        }
        seenAs(x, m, row);
    }

    /** A row of SEEN, a CAR and its place each. */
    static void seenAs(ParkingTrees x, Model m, int... row) {
        x.row(0, 2, row.length);
        TreeMap<Integer, Integer> told = new TreeMap<>();
        boolean clash = false;
        for (int i = 0; i < row.length; i += 2) {
            x.write(0, i, row[i]);
            x.write(0, i + 1, row[i + 1]);
            clash |= told.containsKey(row[i]) && told.get(row[i]) != row[i + 1];
            told.put(row[i], row[i + 1]);
        }
        int laws = 0;
        for (int law = 0; law < 4 && !clash; law++) {
            Map<Integer, Integer> at = Model.park(m.places, law, Model.asMap(m.wishes));
            laws |= at.entrySet().containsAll(told.entrySet()) ? 1 << law : 0;
        }
        Kit.due("laws()", x.laws(0), laws);
        for (int car = 0; car < m.cars(); car++) {
            seenOf(x, m, car, clash, told);
        }
    }

    private static void seenOf(ParkingTrees x, Model m, int car, boolean clash, Map<Integer, Integer> told) {
        List<Map<Integer, Integer>> worlds = new ArrayList<>();
        int fits = 0;
        for (int p = 1; p <= m.places && !clash; p++) {
            List<Integer> row = new ArrayList<>(m.wishes);
            row.set(car, p);
            Map<Integer, Integer> at = Model.park(m.places, m.law, Model.asMap(row));
            if (at.entrySet().containsAll(told.entrySet())) {
                worlds.add(at);
                fits |= 1 << p - 1;
            }
        }
        int ask = -1;
        int fewest = worlds.size();
        for (int other = 0; other < m.cars(); other++) {
            Map<Integer, Integer> groups = new TreeMap<>();
            int worst = 0;
            for (Map<Integer, Integer> at : worlds) {
                worst = Math.max(worst, groups.merge(at.get(other), 1, Integer::sum));
            }
            if (worst < fewest) {
                fewest = worst;
                ask = other;
            }
        }
        Kit.due("fits()", x.fits(0, car), fits);
        Kit.due("ask()", x.ask(0, car), ask);
        Kit.due("remain()", x.remain(0, car), fewest);
    }

    private static void shares(ParkingTrees x, Model m) {
        int all = (1 << m.cars()) - 1;
        for (int set = 0; set <= all; set += 1 + set / 7) {
            Kit.due("worth()", x.worth(set), m.worthOf(set));
        }
        Kit.due("worth() beyond", x.worth(all + 1), -2);
        if (m.cars() > 5) {
            return;
        }
        long[] got = new long[m.cars()];
        long orders = permute(m, new ArrayList<>(), got);
        for (int car = 0; car < m.cars(); car++) {
            long divisor = gcd(Math.abs(got[car]), orders);
            Kit.due("share(,0)", x.share(car, 0), got[car] / divisor);
            Kit.due("share(,1)", x.share(car, 1), orders / divisor);
        }
    }

    private static long permute(Model m, List<Integer> order, long[] got) {
        if (order.size() == m.cars()) {
            int set = 0;
            for (int car : order) {
                got[car] += m.worthOf(set | 1 << car) - m.worthOf(set);
                set |= 1 << car;
            }
            return 1;
        }
        long orders = 0;
        for (int car = 0; car < m.cars(); car++) {
            if (!order.contains(car)) {
                order.add(car);
                orders += permute(m, order, got);
                order.remove(order.size() - 1);
            }
        }
        return orders;
    }

    private static long gcd(long a, long b) {
        return b == 0 ? a : gcd(b, a % b);
    }

    private static int gets(Model m, int car, int other, boolean less, boolean otherLess) {
        List<Integer> row = new ArrayList<>(m.wishes);
        if (less && row.get(car) > 1) {
            row.set(car, row.get(car) - 1);
        }
        if (otherLess && row.get(other) > 1) {
            row.set(other, row.get(other) - 1);
        }
        int spot = Model.park(m.places, m.law, Model.asMap(row)).get(car);
        int got = less ? -1 : 0;
        return spot == 0 ? got : got + 10 - Math.abs(spot - row.get(car));
    }

    private static void games(ParkingTrees x, Model m) {
        for (int car = 0; car < m.cars(); car++) {
            for (int other = 0; other < m.cars(); other++) {
                if (car == other) {
                    continue;
                }
                int rests = 0;
                for (int c = 0; c < 4; c++) {
                    boolean less = c % 2 == 1;
                    boolean otherLess = c >= 2;
                    int mine = gets(m, car, other, less, otherLess);
                    int its = gets(m, other, car, otherLess, less);
                    Kit.due("gets()", x.gets(car, other, c % 2, c / 2), mine);
                    if (gets(m, car, other, !less, otherLess) <= mine && gets(m, other, car, !otherLess, less) <= its) {
                        rests += 1 << c;
                    }
                }
                Kit.due("rests()", x.rests(car, other), rests);
            }
        }
    }

    private static void chances(ParkingTrees x, Model m) {
        long below = Math.round(Math.pow(10, m.cars()));
        long mean = 0;
        long[] lucky = new long[m.cars()];
        for (int set = 0; set < 1 << m.cars(); set++) {
            long weight = 1;
            for (int car = 0; car < m.cars(); car++) {
                weight *= (set & 1 << car) != 0 ? m.odds : 10 - m.odds;
            }
            mean += weight * m.worthOf(set);
            Map<Integer, Integer> coming = m.comingOf(set);
            Map<Integer, Integer> at = Model.park(m.places, m.law, coming);
            for (int car : coming.keySet()) {
                lucky[car] += at.get(car).equals(coming.get(car)) ? weight : 0;
            }
        }
        for (int car = 0; car < m.cars(); car++) {
            Kit.due("chance(,0)", x.chance(car, 0), lucky[car] / gcd(lucky[car], below));
            Kit.due("chance(,1)", x.chance(car, 1), below / gcd(lucky[car], below));
        }
        Kit.due("mean(0)", x.mean(0), mean / gcd(mean, below));
        Kit.due("mean(1)", x.mean(1), below / gcd(mean, below));
    }

    private static int drawn(Model m, long seed) {
        java.math.BigInteger v = java.math.BigInteger.valueOf(seed);
        int set = 0;
        for (int car = 0; car < m.cars(); car++) {
            v = v.multiply(java.math.BigInteger.valueOf(1103515245)).add(java.math.BigInteger.valueOf(12345));
            v = v.mod(java.math.BigInteger.valueOf(2147483648L));
            set |= v.longValue() / 65536 % 10 < m.odds ? 1 << car : 0;
        }
        return set;
    }

    private static void mornings(ParkingTrees x, Model m, Random random) {
        int seed = random.nextInt(2000000001);
        int set = drawn(m, seed);
        Kit.due("drawn(,0)", x.drawn(seed, 0), set);
        Kit.due("drawn(,1)", x.drawn(seed, 1), m.worthOf(set));
        int n = 1 + random.nextInt(20);
        for (int car = 0; car < m.cars(); car++) {
            int lucky = 0;
            for (int i = 0; i < n; i++) {
                Integer spot = Model.park(m.places, m.law, m.comingOf(drawn(m, seed + i))).get(car);
                lucky += spot != null && spot != 0 ? 1 : 0;
            }
            Kit.due("luck()", x.luck(seed, n, car), lucky);
        }
    }
}
