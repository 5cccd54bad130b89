/** Boundary cases of terms II to IV and promises 6 to 24: who parks where, lawful rows, the RING. */
final class BoundsRows {
    private static final int[] NO_WISHES = {};

    private BoundsRows() {
    }

    static ParkingTrees alike(int places, int law, int wish) {
        int[] wishes = new int[places];
        java.util.Arrays.fill(wishes, wish);
        return Kit.wishes(places, law, 5, wishes);
    }

    private static ParkingTrees none(int places, int law) {
        return Kit.wishes(places, law, 5, NO_WISHES);
    }

    // ---- terms II to IV

    static void t2_lawsAtTheLastPlace() {
        Kit.each("LAW 0", alike(8, 0, 8)::place, 0, 8, -1, -1, -1, -1, -1, -1, -1);
        Kit.each("LAW 1", alike(8, 1, 8)::place, 0, 8, 7, -1, -1, -1, -1, -1, -1);
        Kit.each("LAW 2", alike(8, 2, 8)::place, 0, 8, 7, 6, 5, 4, 3, 2, 1);
        Kit.each("LAW 3", alike(8, 3, 8)::place, 0, 8, 1, 2, 3, 4, 5, 6, 7);
    }

    static void t2_lawsAtTheFirstPlace() {
        for (int law = 0; law < 4; law++) {
            Kit.each("LAW " + law, alike(8, law, 1)::place, 0, 1, 2, 3, 4, 5, 6, 7, 8);
        }
    }

    static void t2_lawsInTheMiddle() {
        Kit.each("LAW 0", alike(8, 0, 4)::place, 0, 4, 5, 6, 7, 8, -1, -1, -1);
        Kit.each("LAW 1, just the one below", alike(8, 1, 4)::place, 0, 4, 3, 5, 6, 7, 8, -1, -1);
        Kit.each("LAW 2, of two the one above", alike(8, 2, 4)::place, 0, 4, 5, 3, 6, 2, 7, 1, 8);
        Kit.each("LAW 3", alike(8, 3, 4)::place, 0, 4, 5, 6, 7, 8, 1, 2, 3);
    }

    static void t2_theNearestFarAway() {
        // 3 is 2 below what is wanted, 7 is 2 above
        Kit.due("of two the one above", Kit.wishes(7, 2, 5, 4, 5, 6, 5).place(3), 7);
        // 3 is 2 below, 8 is 3 above
        Kit.due("the nearest", Kit.wishes(8, 2, 5, 4, 5, 6, 7, 5).place(4), 3);
        Kit.due("one place", alike(1, 2, 1).place(0), 1);
    }

    static void t2_byActsInOrder() {
        ParkingTrees x = Kit.wishes(3, 0, 5, 1, 1, 1);
        x.wants(0, 3);
        x.wants(0, 2);
        x.trades(0, 1);
        Kit.each("place", x::place, 0, 1, 2, 3);
        Kit.each("wish", car -> x.car(car, 0), 0, 1, 2, 1);
    }

    static void t3_lawfulOrNot() {
        Kit.due("as many, all on the last", alike(2, 0, 2).lawful(), 0);
        Kit.due("by LAW 0, whatever is told", alike(2, 3, 2).lawful(), 0);
        Kit.due("none LOST, but one too few", Kit.wishes(2, 0, 5, 1).lawful(), 0);
        Kit.due("as many", Kit.wishes(2, 1, 5, 2, 1).lawful(), 1);
    }

    static void t4_theRingGoesRound() {
        Kit.each("behind the last comes 1", alike(8, 0, 8)::ring, 0, 8, 9, 1, 2, 3, 4, 5, 6);
        Kit.each("LAW told is not asked", alike(8, 2, 8)::ring, 0, 8, 9, 1, 2, 3, 4, 5, 6);
        Kit.each("one place", alike(1, 1, 1)::ring, 0, 1);
        Kit.each("on from it, not the first of all", Kit.wishes(4, 3, 5, 2, 2)::ring, 0, 2, 3);
    }

    // ---- promises 6 to 16

    static void p6_car() {
        ParkingTrees x = Kit.told("street places 8 law 0 odds 0;car wants 8 stands 0;car wants 1 stands 99;");
        Kit.bounded("car(c, 0)", car -> x.car(car, 0), -2, 0, 1);
        Kit.bounded("car(c, 1)", car -> x.car(car, 1), -2, 0, 1);
        Kit.bounded("car(0, w)", what -> x.car(0, what), -2, 0, 1);
        Kit.due("the last place", x.car(0, 0), 8);
        Kit.due("stands at 0", x.car(0, 1), 0);
        Kit.due("the first place", x.car(1, 0), 1);
        Kit.due("stands at 99", x.car(1, 1), 99);
        x.wants(1, 2);
        Kit.due("by acts", x.car(1, 0), 2);
        x.undo();
        Kit.due("taken back", x.car(1, 0), 1);
        Kit.due("no CARS", none(8, 0).car(0, 0), -2);
    }

    static void p7_place() {
        ParkingTrees x = alike(3, 1, 3);
        Kit.bounded("place", x::place, -2, 0, 2);
        Kit.due("LOST", x.place(2), -1);
        Kit.due("no CARS", none(8, 3).place(0), -2);
        Kit.due("no STREET", new ParkingTrees().place(0), -2);
        Kit.due("fewer CARS than places", Kit.wishes(8, 0, 5, 8).place(1), -2);
    }

    static void p8_steps() {
        Kit.each("from 8 to 1 it is far", alike(8, 3, 8)::steps, 0, 0, 7, 6, 5, 4, 3, 2, 1);
        Kit.each("downwards", alike(8, 2, 8)::steps, 0, 0, 1, 2, 3, 4, 5, 6, 7);
        ParkingTrees x = alike(3, 0, 2);
        Kit.each("LOST", x::steps, 0, 0, 1, -1);
        Kit.bounded("steps", x::steps, -2, 0, 2);
        Kit.due("no CARS", none(8, 3).steps(0), -2);
        Kit.due("no STREET", new ParkingTrees().steps(0), -2);
    }

    static void p9_lost() {
        Kit.due("all but one", alike(8, 0, 8).lost(), 254);
        Kit.due("none", alike(8, 3, 8).lost(), 0);
        Kit.due("no CARS", none(8, 0).lost(), 0);
        Kit.due("no STREET", new ParkingTrees().lost(), -2);
    }

    static void p10_free() {
        Kit.due("all of 8", none(8, 0).free(), 255);
        Kit.due("all of 1", none(1, 0).free(), 1);
        Kit.due("none of 8", alike(8, 0, 1).free(), 0);
        Kit.due("none of 1", alike(1, 0, 1).free(), 0);
        Kit.due("the last one", Kit.wishes(8, 0, 5, 1, 2, 3, 4, 5, 6, 7).free(), 128);
        Kit.due("the first one", Kit.wishes(8, 0, 5, 2, 3, 4, 5, 6, 7, 8).free(), 1);
        Kit.due("all but the last", alike(8, 0, 8).free(), 127);
        Kit.due("no STREET", new ParkingTrees().free(), -2);
    }

    static void p11_holder() {
        ParkingTrees x = Kit.wishes(8, 0, 5, 8, 1, 1);
        Kit.each("holder", x::holder, 0, -2, 1, 2, -1, -1, -1, -1, -1, 0, -2);
        Kit.bounded("holder", x::holder, -2, 1, 8);
        Kit.bounded("holder of one place", alike(1, 0, 1)::holder, -2, 1, 1);
        Kit.due("no CARS", none(1, 0).holder(1), -1);
        Kit.due("LOST holds none", alike(2, 0, 2).holder(1), -1);
        Kit.due("no STREET", new ParkingTrees().holder(1), -2);
        Kit.due("no STREET", new ParkingTrees().holder(0), -2);
    }

    static void p12_lucky() {
        Kit.due("all", Kit.wishes(8, 0, 5, 8, 7, 6, 5, 4, 3, 2, 1).lucky(), 255);
        Kit.due("the first alone", alike(8, 2, 4).lucky(), 1);
        Kit.due("no CARS", none(8, 0).lucky(), 0);
        Kit.due("LOST is not", alike(2, 0, 2).lucky(), 1);
        Kit.due("no STREET", new ParkingTrees().lucky(), -2);
    }

    static void p13_sum() {
        Kit.due("the most by LAW 0", alike(8, 0, 1).sum(), 28);
        Kit.due("the same by LAW 3", alike(8, 3, 8).sum(), 28);
        Kit.due("LOST make none", alike(8, 0, 8).sum(), 0);
        Kit.due("no CARS", none(8, 0).sum(), 0);
        Kit.due("no STREET", new ParkingTrees().sum(), -2);
    }

    static void p14_worst() {
        Kit.due("0 STEPS, too", Kit.wishes(8, 0, 5, 3, 2).worst(), 0);
        Kit.due("the first of several", Kit.wishes(8, 0, 5, 1, 1, 3, 3).worst(), 1);
        Kit.due("the last", alike(8, 0, 1).worst(), 7);
        Kit.due("LOST is not", alike(8, 0, 8).worst(), 0);
        Kit.due("none parks", none(8, 0).worst(), -1);
        Kit.due("no STREET", new ParkingTrees().worst(), -2);
    }

    static void p15_runs() {
        Kit.due("none", none(8, 0).runs(), 0);
        Kit.due("one of all", alike(8, 0, 1).runs(), 1);
        Kit.due("as many as can be", Kit.wishes(8, 0, 5, 1, 3, 5, 7).runs(), 4);
        Kit.due("the first and the last are no neighbours", Kit.wishes(8, 3, 5, 1, 8).runs(), 2);
        Kit.due("the last alone", alike(8, 0, 8).runs(), 1);
        Kit.due("one place", alike(1, 0, 1).runs(), 1);
        Kit.due("no STREET", new ParkingTrees().runs(), -2);
    }

    static void p16_sorted() {
        ParkingTrees x = Kit.wishes(8, 0, 5, 8, 1, 8);
        Kit.each("sorted", x::sorted, -1, -2, 1, 8, 8, -1, -1);
        Kit.due("far below 0", x.sorted(Integer.MIN_VALUE), -2);
        Kit.due("far above", x.sorted(Integer.MAX_VALUE), -1);
        Kit.due("no CARS", none(8, 0).sorted(0), -1);
        Kit.due("no CARS, below 0", none(8, 0).sorted(-1), -2);
        Kit.due("no STREET", new ParkingTrees().sorted(0), -2);
        Kit.due("no STREET, far above", new ParkingTrees().sorted(9), -2);
        x.wants(0, 2);
        Kit.each("by acts", x::sorted, 0, 1, 2, 8);
    }

    // ---- promises 17 to 20

    static void p17_lawful() {
        Kit.due("all on 1", alike(8, 0, 1).lawful(), 1);
        Kit.due("each its own", Kit.wishes(8, 0, 5, 8, 7, 6, 5, 4, 3, 2, 1).lawful(), 1);
        Kit.due("none wants 1", Kit.wishes(8, 2, 5, 8, 7, 6, 5, 4, 3, 2, 2).lawful(), 0);
        Kit.due("two want 8", Kit.wishes(8, 2, 5, 8, 8, 6, 5, 4, 3, 2, 1).lawful(), 0);
        Kit.due("two want 7, none 8", Kit.wishes(8, 2, 5, 7, 7, 6, 5, 4, 3, 2, 1).lawful(), 1);
        Kit.due("one too few", Kit.wishes(8, 0, 5, 1, 1, 1, 1, 1, 1, 1).lawful(), 0);
        Kit.due("no CARS", none(1, 0).lawful(), 0);
        Kit.due("no STREET", new ParkingTrees().lawful(), -2);
    }

    static void p18_prime() {
        Kit.due("one place has no such k", alike(1, 0, 1).prime(), 1);
        Kit.due("just k + 1 for each k", Kit.wishes(3, 0, 5, 2, 1, 1).prime(), 1);
        Kit.due("k of k, the first", Kit.wishes(3, 0, 5, 2, 1, 2).prime(), 0);
        Kit.due("k of k, the last", Kit.wishes(3, 0, 5, 1, 1, 3).prime(), 0);
        Kit.due("k of k at 7", Kit.wishes(8, 0, 5, 8, 1, 1, 1, 1, 1, 1, 1).prime(), 0);
        Kit.due("8 of 7", Kit.wishes(8, 0, 5, 7, 1, 1, 1, 1, 1, 1, 1).prime(), 1);
        Kit.due("not LAWFUL, for it are too few", Kit.wishes(3, 0, 5, 1, 1).prime(), 0);
        Kit.due("not LAWFUL", Kit.wishes(3, 0, 5, 1, 3, 3).prime(), 0);
        Kit.due("not LAWFUL, of one place", none(1, 0).prime(), 0);
        Kit.due("no STREET", new ParkingTrees().prime(), -2);
    }

    static void p19_breaks() {
        Kit.due("one place", alike(1, 0, 1).breaks(), 1);
        Kit.due("places alone", alike(8, 0, 1).breaks(), 1);
        Kit.due("each k", Kit.wishes(8, 0, 5, 8, 7, 6, 5, 4, 3, 2, 1).breaks(), 8);
        Kit.due("not LAWFUL, though just k want k", Kit.wishes(3, 0, 5, 1, 3, 3).breaks(), -1);
        Kit.due("too few", Kit.wishes(3, 0, 5, 1, 2).breaks(), -1);
        Kit.due("no CARS", none(1, 0).breaks(), -1);
        Kit.due("no STREET", new ParkingTrees().breaks(), -2);
    }

    static void p20_likes() {
        Kit.due("no CARS: one row, of none", none(8, 0).likes(), 1);
        Kit.due("the most", alike(8, 0, 1).likes(), 40320);
        Kit.due("by LAW 0, whatever is told", alike(8, 3, 1).likes(), 40320);
        Kit.due("the fewest", Kit.wishes(8, 0, 5, 8, 7, 6, 5, 4, 3, 2, 1).likes(), 1);
        // one has 2; one 3, wanted 2 or 3; the last one is LOST, wanted 2 or 3
        Kit.due("one LOST", Kit.wishes(3, 3, 5, 2, 3, 3).likes(), 4);
        Kit.due("one LOST, that wants the last", Kit.wishes(3, 0, 5, 1, 3, 3).likes(), 1);
        Kit.due("all but one LOST", alike(8, 0, 8).likes(), 1);
        Kit.due("no STREET", new ParkingTrees().likes(), -2);
    }

    // ---- promises 21 to 24

    static void p21_ring() {
        ParkingTrees x = alike(3, 0, 3);
        Kit.each("one LOST on the street parks here", x::ring, 0, 3, 4, 1);
        Kit.bounded("ring", x::ring, -2, 0, 2);
        Kit.due("no CARS", none(8, 0).ring(0), -2);
        Kit.due("no STREET", new ParkingTrees().ring(0), -2);
    }

    static void p22_hole() {
        Kit.due("no CARS: the least", none(8, 0).hole(), 1);
        Kit.due("the last", alike(8, 0, 1).hole(), 9);
        Kit.due("round", alike(8, 0, 8).hole(), 7);
        Kit.due("of two the least", Kit.wishes(3, 0, 5, 1, 3).hole(), 2);
        Kit.due("one place", alike(1, 0, 1).hole(), 2);
        Kit.due("no STREET", new ParkingTrees().hole(), -2);
    }

    static void p23_shifts() {
        Kit.due("no CARS: all of 0 .. 8", none(8, 0).shifts(), 511);
        Kit.due("no CARS: all of 0 .. 1", none(1, 0).shifts(), 3);
        Kit.due("LAWFUL: 0 alone", alike(8, 0, 1).shifts(), 1);
        Kit.due("the last", Kit.wishes(3, 0, 5, 2, 2, 2).shifts(), 8);
        Kit.due("2 of 0 .. 8", alike(8, 0, 8).shifts(), 4);
        Kit.due("no STREET", new ParkingTrees().shifts(), -2);
    }

    static void p24_shifted() {
        ParkingTrees x = Kit.wishes(8, 0, 5, 8, 1, 2);
        Kit.each("8 and more", shift -> x.shifted(0, shift), -1, -2, 8, 9, 1, 2, 3, 4, 5, 6, 7, -2);
        Kit.each("1 and more", shift -> x.shifted(1, shift), -1, -2, 1, 2, 3, 4, 5, 6, 7, 8, 9, -2);
        Kit.due("2 and 8", x.shifted(2, 8), 1);
        Kit.bounded("shift", shift -> x.shifted(0, shift), -2, 0, 8);
        Kit.bounded("CAR", car -> x.shifted(car, 0), -2, 0, 2);
        Kit.bounded("shift of one place", shift -> alike(1, 0, 1).shifted(0, shift), -2, 0, 1);
        Kit.due("no CARS", none(8, 0).shifted(0, 0), -2);
        Kit.due("no STREET", new ParkingTrees().shifted(0, 0), -2);
    }
}
