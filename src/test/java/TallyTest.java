import java.util.List;

/** Promises 39 to 42: rows, moved, trees, ends, each counted out. */
public final class TallyTest {
    public static void main(String[] args) {
        ParkingTrees x = Kit.wishes(2, 1, 5, 2, 2);
        for (int n = 1; n <= 5; n++) {
            countRows(x, n);
            countTrees(x, n);
        }
        ParkingTrees none = new ParkingTrees();
        for (int n : new int[] {Integer.MIN_VALUE, -1, 0, 6, Integer.MAX_VALUE}) {
            Kit.due("rows(" + n + ")", x.rows(n), -2);
            Kit.due("moved(" + n + ", 0)", x.moved(n, 0), -2);
            Kit.due("trees(" + n + ", 0)", x.trees(n, 0), -2);
            Kit.due("ends(" + n + ", 1)", x.ends(n, 1), -2);
        }
        for (int k : new int[] {-1, 21, Integer.MIN_VALUE, Integer.MAX_VALUE}) {
            Kit.due("moved(3, " + k + ")", x.moved(3, k), -2);
            Kit.due("trees(3, " + k + ")", x.trees(3, k), -2);
            Kit.due("ends(3, " + k + ")", x.ends(3, k), -2);
        }
        Kit.due("ends(3, 0)", x.ends(3, 0), -2);
        Kit.due("ends(3, 4)", x.ends(3, 4), -2);
        Kit.due("no STREET", none.rows(3), -2);
        Kit.due("no STREET", none.moved(3, 0), -2);
        Kit.due("no STREET", none.trees(3, 0), -2);
        Kit.due("no STREET", none.ends(3, 1), -2);
        Kit.finish();
    }

    private static void countRows(ParkingTrees x, int n) {
        int lawful = 0;
        int[] bySteps = new int[21];
        int[] byEnd = new int[n + 1];
        for (List<Integer> row : Model.allRows(n, n)) {
            if (Model.lawfulRow(row)) {
                var at = Model.park(n, 0, Model.asMap(row));
                lawful++;
                bySteps[Model.stepsOf(Model.asMap(row), at)]++;
                byEnd[at.get(n - 1)]++;
            }
        }
        Kit.due("rows(" + n + ")", x.rows(n), lawful);
        for (int k = 0; k <= 20; k++) {
            Kit.due("moved(" + n + ", " + k + ")", x.moved(n, k), bySteps[k]);
        }
        for (int p = 1; p <= n; p++) {
            Kit.due("ends(" + n + ", " + p + ")", x.ends(n, p), byEnd[p]);
        }
    }

    private static void countTrees(ParkingTrees x, int n) {
        int[] byTurned = new int[21];
        for (int[] tree : Model.allTrees(n)) {
            byTurned[Model.turnedOf(tree)]++;
        }
        for (int k = 0; k <= 20; k++) {
            Kit.due("trees(" + n + ", " + k + ")", x.trees(n, k), byTurned[k]);
        }
    }
}
