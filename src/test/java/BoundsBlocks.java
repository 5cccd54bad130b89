/** Boundary cases of terms VIII, IX and promises 43 to 55: BLOCKS, FENCES. */
final class BoundsBlocks {
    private BoundsBlocks() {
    }

    private static ParkingTrees joined(int places, int... numbers) {
        StringBuilder text = new StringBuilder("street places " + places + " law 0 odds 0;");
        for (int i = 0; i < numbers.length; i += 2) {
            text.append("join ").append(numbers[i]).append(' ').append(numbers[i + 1]).append(';');
        }
        ParkingTrees x = new ParkingTrees();
        Kit.due("'" + text + "'", Kit.tell(x, text.toString()), 1 + numbers.length / 2);
        return x;
    }

    private static ParkingTrees standing(int... stands) {
        StringBuilder text = new StringBuilder("street places 8 law 0 odds 0;");
        for (int stand : stands) {
            text.append("car wants 1 stands ").append(stand).append(';');
        }
        return Kit.told(text.toString());
    }

    private static ParkingTrees allNine() {
        return joined(8, 9, 8, 8, 7, 7, 6, 6, 5, 5, 4, 4, 3, 3, 2, 2, 1);
    }

    // ---- terms VIII and IX

    static void t8_crossedOrNot() {
        ParkingTrees x = joined(3, 1, 3);
        Kit.due("1 < 2 < 3 < 4", x.may(2, 4), 0);
        Kit.due("2 lies between", x.may(2, 3), 1);
        Kit.due("4 lies behind", x.may(4, 1), 1);
        ParkingTrees y = joined(3, 2, 4);
        Kit.due("1 < 2 < 3 < 4, the other way", y.may(1, 3), 0);
        Kit.due("3 lies between", y.may(3, 2), 1);
        Kit.due("1 lies ahead", y.may(1, 4), 1);
        ParkingTrees z = joined(3, 1, 2);
        Kit.due("beside one another", z.may(3, 4), 1);
        Kit.due("around", joined(3, 2, 3).may(1, 4), 1);
        Kit.due("within", joined(3, 1, 4).may(2, 3), 1);
    }

    static void t8_aJoinOfBlocksCrosses() {
        ParkingTrees x = joined(7, 1, 2, 5, 6, 3, 4);
        Kit.due("around a BLOCK", x.may(1, 6), 1);
        Kit.due("a BLOCK on", x.may(2, 3), 1);
        Kit.due("within and without", joined(7, 1, 6, 3, 4).may(4, 7), 0);
        Kit.due("within and without", joined(7, 3, 6, 4, 5).may(1, 4), 0);
        Kit.due("two that lie around", joined(7, 1, 8, 3, 4).may(4, 8), 1);
    }

    static void t8_labels() {
        Kit.due("the least number is asked, not the first told", joined(3, 4, 2).label(0), 2);
        Kit.due("the greatest below all of the other one", joined(8, 1, 3, 5, 6, 3, 6).label(2), 3);
        Kit.due("around the other one", joined(8, 1, 9, 5, 6, 9, 5).label(2), 1);
        Kit.due("behind some of it", joined(8, 1, 4, 4, 9, 6, 7, 6, 9).label(3), 4);
    }

    static void t9_fences() {
        Kit.each("i stands farther", ahead -> standing(ahead, 0).across(0, 1), 0, 0, 0, 0, 0, 0, 0, 0, 0, 0, 0, 0, 1, 1);
        Kit.due("i stands 99 farther", standing(99, 0).across(0, 1), 1);
        Kit.due("i stands 1 less far", standing(0, 1).across(0, 1), 1);
        Kit.due("i stands 99 less far", standing(0, 99).across(0, 1), 1);
    }

    // ---- promises 43 to 50

    static void p43_label() {
        ParkingTrees x = allNine();
        Kit.each("label", x::label, -1, -2, 8, 7, 6, 5, 4, 3, 2, 1, -2);
        Kit.bounded("JOIN", x::label, -2, 0, 7);
        Kit.due("no JOINS", joined(8).label(0), -2);
        Kit.due("no STREET", new ParkingTrees().label(0), -2);
        x.street();
        Kit.due("no STREET any more", x.label(0), -2);
    }

    static void p44_merged() {
        ParkingTrees x = allNine();
        Kit.each("merged", x::merged, -1, -2, 384, 448, 480, 496, 504, 508, 510, 511, -2);
        Kit.bounded("JOIN", x::merged, -2, 0, 7);
        Kit.due("the lowest", joined(1, 2, 1).merged(0), 3);
        Kit.due("no JOINS", joined(8).merged(0), -2);
        Kit.due("no STREET", new ParkingTrees().merged(0), -2);
    }

    static void p45_blocks() {
        Kit.due("each alone", joined(8).blocks(), 9);
        Kit.due("each alone", joined(1).blocks(), 2);
        Kit.due("one", allNine().blocks(), 1);
        Kit.due("one", joined(1, 1, 2).blocks(), 1);
        Kit.due("no STREET", new ParkingTrees().blocks(), -2);
    }

    static void p46_block() {
        Kit.each("alone", joined(8)::block, 0, -2, 1, 2, 4, 8, 16, 32, 64, 128, 256, -2);
        Kit.bounded("number", joined(8)::block, -2, 1, 9);
        Kit.bounded("number of one place", joined(1)::block, -2, 1, 2);
        Kit.each("all", allNine()::block, 0, -2, 511, 511, 511, 511, 511, 511, 511, 511, 511, -2);
        Kit.due("no STREET", new ParkingTrees().block(1), -2);
    }

    static void p47_next() {
        Kit.due("all pairs", joined(8).next(), 36);
        Kit.due("the one pair", joined(1).next(), 1);
        Kit.due("one BLOCK", allNine().next(), 0);
        // 1 with 3: 1 with 2 or 4, 3 with 2 or 4, but they are one BLOCK; 2 with 4 is crossed
        Kit.due("pairs of BLOCKS, not of numbers", joined(3, 1, 3).next(), 2);
        Kit.due("no STREET", new ParkingTrees().next(), -2);
    }

    static void p48_may() {
        ParkingTrees x = joined(8, 1, 2);
        Kit.bounded("the first", a -> x.may(a, 5), -2, 1, 9);
        Kit.bounded("the second", b -> x.may(5, b), -2, 1, 9);
        Kit.due("of one BLOCK", x.may(1, 2), 0);
        Kit.due("one number twice", x.may(9, 9), 0);
        Kit.due("both are none", x.may(0, 10), -2);
        Kit.due("none, twice", x.may(10, 10), -2);
        Kit.due("no STREET", new ParkingTrees().may(1, 2), -2);
    }

    static void p49_labels() {
        ParkingTrees x = joined(8, 1, 2, 4, 6);
        Kit.bounded("the first", a -> x.labels(a, 3), -2, 1, 9);
        Kit.bounded("the second", b -> x.labels(3, b), -2, 1, 9);
        Kit.due("of one BLOCK", x.labels(1, 2), -1);
        Kit.due("one number twice", x.labels(9, 9), -1);
        Kit.due("crossed", x.labels(5, 9), -1);
        Kit.due("by the BLOCK's greatest below", x.labels(9, 1), 2);
        Kit.due("the last two", x.labels(9, 8), 8);
        Kit.due("none of them", x.labels(0, 10), -2);
        Kit.due("no STREET", new ParkingTrees().labels(1, 2), -2);
    }

    static void p50_chain() {
        Kit.due("one BLOCK", allNine().chain(), 1);
        Kit.due("one BLOCK of two", joined(1, 1, 2).chain(), 1);
        Kit.due("two BLOCKS", joined(3, 1, 2, 3, 4).chain(), 0);
        Kit.due("no JOINS", joined(1).chain(), 0);
        Kit.due("CARS are not asked", Kit.told("street places 2 law 0 odds 0;car wants 2 stands 0;car wants 2 stands 0;"
            + "join 1 2;join 2 3;").chain(), 1);
        Kit.due("no STREET", new ParkingTrees().chain(), -2);
    }

    // ---- promises 51 to 55

    static void p51_region() {
        Kit.each("each behind the one ahead", standing(0, 1, 2, 3, 4, 5, 6, 7)::region, -1,
            -2, 8, 7, 6, 5, 4, 3, 2, 1, -2);
        Kit.each("more than 10 each", standing(99, 88, 77, 66, 55, 44, 33, 22)::region, -1,
            -2, 1, 2, 3, 4, 5, 6, 7, 8, -2);
        Kit.each("all as far", standing(5, 5, 5)::region, 0, 1, 1, 1, -2);
        Kit.each("just 10", standing(30, 20, 10)::region, 0, 1, 1, 2, -2);
        Kit.bounded("CAR", standing(7, 7, 7, 7, 7, 7, 7, 7)::region, -2, 0, 7);
        Kit.due("no CARS", standing().region(0), -2);
        Kit.due("no STREET", new ParkingTrees().region(0), -2);
    }

    static void p52_across() {
        ParkingTrees x = standing(50, 39, 40, 50);
        Kit.bounded("the first", car -> x.across(car, 1), -2, 0, 3);
        Kit.bounded("the second", car -> x.across(0, car == 0 ? 1 : car), -2, 0, 3);
        Kit.each("one twice", car -> x.across(car, car), -1, -2, -2, -2, -2, -2, -2);
        Kit.each("from 0 on", car -> x.across(0, car), 1, 1, 0, 0);
        Kit.each("to 0", car -> x.across(car, 0), 1, 1, 0, 0);
        Kit.due("one CAR", standing(1).across(0, 1), -2);
        Kit.due("no STREET", new ParkingTrees().across(0, 1), -2);
    }

    static void p53_fences() {
        Kit.due("all pairs, the first FENCE", standing(0, 1, 2, 3, 4, 5, 6, 7).fences(), 28);
        Kit.due("all pairs, the second", standing(99, 88, 77, 66, 55, 44, 33, 22).fences(), 28);
        Kit.due("just 10 is not crossed", standing(10, 0).fences(), 0);
        Kit.due("one CAR", standing(99).fences(), 0);
        Kit.due("no CARS", standing().fences(), 0);
        Kit.due("no STREET", new ParkingTrees().fences(), -2);
    }

    static void p54_far() {
        Kit.due("the last", standing(0, 1, 2, 3, 4, 5, 6, 99).far(), 7);
        Kit.due("the first of several", standing(3, 9, 9).far(), 1);
        Kit.due("all at 0", standing(0, 0).far(), 0);
        Kit.due("no CARS", standing().far(), -1);
        Kit.due("no STREET", new ParkingTrees().far(), -2);
    }

    static void p55_astride() {
        Kit.due("as far", standing(4, 4).astride(), 1);
        Kit.due("i just 10 farther", standing(14, 4).astride(), 1);
        Kit.due("j just 10 farther", standing(4, 14).astride(), 0);
        Kit.each("i farther", ahead -> standing(ahead, 0).astride(), 0, 1, 0, 0, 0, 0, 0, 0, 0, 0, 0, 1, 0, 0);
        Kit.due("all pairs", standing(7, 7, 7, 7, 7, 7, 7, 7).astride(), 28);
        Kit.due("one CAR", standing(7).astride(), 0);
        Kit.due("no CARS", standing().astride(), 0);
        Kit.due("no STREET", new ParkingTrees().astride(), -2);
    }
}
