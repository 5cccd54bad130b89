import java.util.ArrayList;
import java.util.HashMap;
import java.util.HashSet;
import java.util.List;
import java.util.Map;
import java.util.Set;
import java.util.TreeMap;
import java.util.TreeSet;

/** The document's terms once more, by search and by counting out, to hold the class against. */
final class Model {
    int places;
    int law;
    int odds;
    final List<Integer> wishes = new ArrayList<>();
    final List<Integer> stands = new ArrayList<>();
    final List<int[]> joins = new ArrayList<>();

    String text() {
        StringBuilder text = new StringBuilder("street places " + places + " law " + law + " odds " + odds + ";");
        for (int i = 0; i < wishes.size(); i++) {
            text.append("car wants ").append(wishes.get(i)).append(" stands ").append(stands.get(i)).append(";\n");
        }
        for (int[] join : joins) {
            text.append("join ").append(join[0]).append(" ").append(join[1]).append(";");
        }
        return text.toString();
    }

    int cars() {
        return wishes.size();
    }

    // ---- II: a map from CAR to place for those that come; 0 is LOST

    static Map<Integer, Integer> park(int places, int law, Map<Integer, Integer> coming) {
        Map<Integer, Integer> at = new TreeMap<>();
        TreeSet<Integer> free = new TreeSet<>();
        for (int p = 1; p <= places; p++) {
            free.add(p);
        }
        for (int car : new TreeSet<>(coming.keySet())) {
            int want = coming.get(car);
            Integer spot = free.contains(want) ? Integer.valueOf(want) : null;
            Integer up = free.higher(want);
            Integer down = free.lower(want);
            if (spot == null && law == 1 && free.contains(want - 1)) {
                spot = want - 1;
            }
            if (spot == null && law == 2 && down != null && (up == null || want - down < up - want)) {
                spot = down;
            }
            if (spot == null) {
                spot = up;
            }
            if (spot == null && law == 3 && !free.isEmpty()) {
                spot = free.first();
            }
            if (spot != null) {
                free.remove(spot);
            }
            at.put(car, spot == null ? 0 : spot);
        }
        return at;
    }

    static Map<Integer, Integer> asMap(List<Integer> row) {
        Map<Integer, Integer> map = new TreeMap<>();
        for (int i = 0; i < row.size(); i++) {
            map.put(i, row.get(i));
        }
        return map;
    }

    static int stepsOf(Map<Integer, Integer> coming, Map<Integer, Integer> at) {
        int steps = 0;
        for (int car : at.keySet()) {
            if (at.get(car) != 0) {
                steps += Math.abs(at.get(car) - coming.get(car));
            }
        }
        return steps;
    }

    static int lostOf(Map<Integer, Integer> at) {
        int lost = 0;
        for (int spot : at.values()) {
            if (spot == 0) {
                lost++;
            }
        }
        return lost;
    }

    Map<Integer, Integer> parked() {
        return park(places, law, asMap(wishes));
    }

    int stepsOfRow(List<Integer> row, int byLaw) {
        return stepsOf(asMap(row), park(places, byLaw, asMap(row)));
    }

    int worthOf(int set) {
        Map<Integer, Integer> coming = comingOf(set);
        return stepsOf(coming, park(places, law, coming));
    }

    Map<Integer, Integer> comingOf(int set) {
        Map<Integer, Integer> coming = new TreeMap<>();
        for (int car = 0; car < cars(); car++) {
            if ((set & 1 << car) != 0) {
                coming.put(car, wishes.get(car));
            }
        }
        return coming;
    }

    static boolean lawfulRow(List<Integer> row) {
        return !park(row.size(), 0, asMap(row)).containsValue(0);
    }

    boolean lawful() {
        return cars() == places && lawfulRow(wishes);
    }

    /** All rows of n wishes 1 .. places. */
    static List<List<Integer>> allRows(int n, int places) {
        List<List<Integer>> rows = new ArrayList<>();
        rows.add(new ArrayList<>());
        for (int i = 0; i < n; i++) {
            List<List<Integer>> longer = new ArrayList<>();
            for (List<Integer> row : rows) {
                for (int w = 1; w <= places; w++) {
                    List<Integer> copy = new ArrayList<>(row);
                    copy.add(w);
                    longer.add(copy);
                }
            }
            rows = longer;
        }
        return rows;
    }

    int likes() {
        Map<Integer, Integer> now = park(places, 0, asMap(wishes));
        int like = 0;
        for (List<Integer> row : allRows(cars(), places)) {
            if (park(places, 0, asMap(row)).equals(now)) {
                like++;
            }
        }
        return like;
    }

    // ---- IV

    int[] ringOf(int shift) {
        int round = places + 1;
        boolean[] taken = new boolean[round];
        int[] at = new int[cars()];
        for (int car = 0; car < cars(); car++) {
            int p = (wishes.get(car) - 1 + shift) % round;
            while (taken[p]) {
                p = (p + 1) % round;
            }
            taken[p] = true;
            at[car] = p + 1;
        }
        return at;
    }

    static boolean has(int[] row, int number) {
        for (int v : row) {
            if (v == number) {
                return true;
            }
        }
        return false;
    }

    // ---- V to VII: trees as rows of parents, index 0 unused

    static List<Integer> orderByWishes(List<Integer> row) {
        List<Integer> order = new ArrayList<>(List.of(0));
        for (int p = 1; p <= row.size(); p++) {
            for (int car = 0; car < row.size(); car++) {
                if (row.get(car) == p) {
                    order.add(car + 1);
                }
            }
        }
        return order;
    }

    static int[] treeByWishes(List<Integer> row) {
        List<Integer> order = orderByWishes(row);
        int[] parents = new int[row.size() + 1];
        for (int car = 0; car < row.size(); car++) {
            parents[car + 1] = order.get(row.get(car) - 1);
        }
        return parents;
    }

    static int[] treeBySearch(List<Integer> row, List<Integer> visits) {
        int n = row.size();
        int[] parents = new int[n + 1];
        int[] grains = new int[n + 1];
        for (int v = 1; v <= n; v++) {
            grains[v] = row.get(v - 1) - 1;
        }
        visits.add(0);
        from(0, grains, parents, visits);
        return parents;
    }

    private static void from(int node, int[] grains, int[] parents, List<Integer> visits) {
        for (int v = grains.length - 1; v >= 1; v--) {
            if (visits.contains(v)) {
                continue;
            }
            if (grains[v] > 0) {
                grains[v]--;
                continue;
            }
            visits.add(v);
            parents[v] = node;
            from(v, grains, parents, visits);
        }
    }

    static int depthOf(int[] parents, int node) {
        return node == 0 ? 0 : 1 + depthOf(parents, parents[node]);
    }

    static boolean hangs(int[] parents, int low, int high) {
        return low != 0 && (parents[low] == high || hangs(parents, parents[low], high));
    }

    static int turnedOf(int[] parents) {
        int pairs = 0;
        for (int low = 1; low < parents.length; low++) {
            for (int high = low + 1; high < parents.length; high++) {
                if (hangs(parents, low, high)) {
                    pairs++;
                }
            }
        }
        return pairs;
    }

    static List<Integer> codeOf(int[] parents) {
        List<Set<Integer>> limbs = new ArrayList<>();
        for (int v = 0; v < parents.length; v++) {
            limbs.add(new HashSet<>());
        }
        for (int v = 1; v < parents.length; v++) {
            limbs.get(v).add(parents[v]);
            limbs.get(parents[v]).add(v);
        }
        List<Integer> code = new ArrayList<>();
        while (code.size() < parents.length - 2) {
            int v = 0;
            while (limbs.get(v).size() != 1) {
                v++;
            }
            int other = limbs.get(v).iterator().next();
            limbs.get(v).clear();
            limbs.get(other).remove(v);
            code.add(other);
        }
        return code;
    }

    /** All trees on nodes 0 .. n, as rows of parents. */
    static List<int[]> allTrees(int n) {
        List<int[]> trees = new ArrayList<>();
        for (List<Integer> row : allRows(n, n + 1)) {
            int[] parents = new int[n + 1];
            for (int v = 1; v <= n; v++) {
                parents[v] = row.get(v - 1) - 1;
            }
            if (isTree(parents)) {
                trees.add(parents);
            }
        }
        return trees;
    }

    private static boolean isTree(int[] parents) {
        for (int v = 1; v < parents.length; v++) {
            int at = v;
            for (int i = 0; i < parents.length && at != 0; i++) {
                at = parents[at];
            }
            if (at != 0) {
                return false;
            }
        }
        return true;
    }

    static Map<List<Integer>, int[]> treesByCode(int n) {
        Map<List<Integer>, int[]> trees = new HashMap<>();
        for (int[] tree : allTrees(n)) {
            trees.put(codeOf(tree), tree);
        }
        return trees;
    }

    // ---- VIII

    List<Set<Integer>> startBlocks() {
        List<Set<Integer>> blocks = new ArrayList<>();
        for (int v = 1; v <= places + 1; v++) {
            blocks.add(new TreeSet<>(Set.of(v)));
        }
        return blocks;
    }

    static Set<Integer> blockOf(List<Set<Integer>> blocks, int number) {
        for (Set<Integer> block : blocks) {
            if (block.contains(number)) {
                return block;
            }
        }
        throw new IllegalStateException();
    }

    static List<Set<Integer>> joined(List<Set<Integer>> blocks, int a, int b) {
        List<Set<Integer>> after = new ArrayList<>();
        Set<Integer> whole = new TreeSet<>(blockOf(blocks, a));
        whole.addAll(blockOf(blocks, b));
        after.add(whole);
        for (Set<Integer> block : blocks) {
            if (!whole.containsAll(block)) {
                after.add(block);
            }
        }
        return after;
    }

    static boolean uncrossed(List<Set<Integer>> blocks) {
        for (Set<Integer> one : blocks) {
            for (Set<Integer> other : blocks) {
                if (one != other && crossing(one, other)) {
                    return false;
                }
            }
        }
        return true;
    }

    private static boolean crossing(Set<Integer> one, Set<Integer> other) {
        for (int a : one) {
            for (int c : one) {
                for (int b : other) {
                    for (int d : other) {
                        if (a < b && b < c && c < d) {
                            return true;
                        }
                    }
                }
            }
        }
        return false;
    }

    static boolean mayJoin(List<Set<Integer>> blocks, int a, int b) {
        return blockOf(blocks, a) != blockOf(blocks, b) && uncrossed(joined(blocks, a, b));
    }

    static int labelOf(List<Set<Integer>> blocks, int a, int b) {
        TreeSet<Integer> one = new TreeSet<>(blockOf(blocks, a));
        TreeSet<Integer> other = new TreeSet<>(blockOf(blocks, b));
        return one.first() < other.first() ? one.lower(other.first()) : other.lower(one.first());
    }

    static int bitsOf(Set<Integer> numbers) {
        int bits = 0;
        for (int v : numbers) {
            bits |= 1 << v - 1;
        }
        return bits;
    }
}
