import java.util.ArrayList;
import java.util.List;
import java.util.Map;
import java.util.Random;
import java.util.Set;

/** Every street of up to four places, every CODE, every JOIN and every pair of SEEN of small ones, against the Model. */
public final class SmallStreetsTest {
    private static final int MOST = 4;

    public static void main(String[] args) {
        everyRow();
        everyCode();
        everyJoin(new Model(), 3);
        everyStand();
        everySight();
        Kit.finish();
    }

    private static Model model(int places, int law, List<Integer> row) {
        Model m = new Model();
        m.places = places;
        m.law = law;
        m.wishes.addAll(row);
        for (int car = 0; car < row.size(); car++) {
            m.stands.add(10 * row.get(car) % 31);
        }
        return m;
    }

    private static void everyRow() {
        Random random = new Random(4);
        int odds = 0;
        for (int places = 1; places <= MOST; places++) {
            for (int cars = 0; cars <= places; cars++) {
                for (List<Integer> row : Model.allRows(cars, places)) {
                    for (int law = 0; law < 4; law++) {
                        Model m = model(places, law, row);
                        m.odds = odds % 11;
                        odds++;
                        Kit.part(m.text());
                        ModelTest.holdAll(Kit.told(m.text()), m, random);
                    }
                }
            }
        }
    }

    /** above() gives the tree of which it is the CODE; wish() and regain() the rows that give this tree. */
    private static void everyCode() {
        for (int places = 1; places <= MOST; places++) {
            ParkingTrees x = Kit.wishes(places, 0, 0);
            for (Map.Entry<List<Integer>, int[]> told : ModelTest.TREES.get(places).entrySet()) {
                Kit.part("CODE " + told.getKey());
                x.row(0, 0, places - 1);
                for (int i = 0; i < places - 1; i++) {
                    x.write(0, i, told.getKey().get(i));
                }
                List<Integer> wishes = new ArrayList<>();
                List<Integer> regained = new ArrayList<>();
                for (int car = 0; car < places; car++) {
                    wishes.add(x.wish(0, car));
                    regained.add(x.regain(0, car));
                }
                int[] byWishes = Model.treeByWishes(wishes);
                int[] bySearch = Model.treeBySearch(regained, new ArrayList<>());
                for (int car = 0; car < places; car++) {
                    Kit.due("above", x.above(0, car), told.getValue()[car + 1]);
                    Kit.due("wish", byWishes[car + 1], told.getValue()[car + 1]);
                    Kit.due("regain", bySearch[car + 1], told.getValue()[car + 1]);
                }
                Kit.due("upset", x.upset(0), Model.turnedOf(told.getValue()));
            }
        }
    }

    /** Every way to join numbers 1 .. places and 1, and every JOIN that is refused on the way. */
    private static void everyJoin(Model m, int places) {
        m.places = places;
        Kit.part(m.text());
        ModelTest.blocks(Kit.told(m.text()), m);
        List<Set<Integer>> blocks = m.startBlocks();
        for (int[] join : m.joins) {
            blocks = Model.joined(blocks, join[0], join[1]);
        }
        for (int a = 1; a <= places + 1; a++) {
            for (int b = 1; b <= places + 1; b++) {
                m.joins.add(new int[] {a, b});
                if (Model.mayJoin(blocks, a, b)) {
                    everyJoin(m, places);
                } else {
                    ParkingTrees x = new ParkingTrees();
                    Kit.due(m.text(), Kit.tell(x, m.text()), -4);
                    Kit.due("fault(0)", x.fault(0), 2);
                    Kit.due("fault(1)", x.fault(1), m.text().length() - 2);
                }
                m.joins.remove(m.joins.size() - 1);
            }
        }
    }

    private static void everyStand() {
        int[] stands = {0, 1, 9, 10, 11, 20, 21, 99};
        for (int a : stands) {
            for (int b : stands) {
                for (int c : stands) {
                    Model m = model(3, 0, List.of(1, 1, 1));
                    m.stands.clear();
                    m.stands.addAll(List.of(a, b, c));
                    Kit.part(m.text());
                    ModelTest.fences(Kit.told(m.text()), m);
                }
            }
        }
    }

    private static void everySight() {
        for (List<Integer> row : Model.allRows(3, 3)) {
            for (int law = 0; law < 4; law++) {
                Model m = model(3, law, row);
                Kit.part(m.text());
                ParkingTrees x = Kit.told(m.text());
                for (int sight = 0; sight < 144; sight++) {
                    ModelTest.seenAs(x, m, sight % 3, sight / 3 % 4, sight / 12 % 3, sight / 36);
                }
            }
        }
    }
}
