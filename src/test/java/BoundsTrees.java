/** Boundary cases of terms V to VII and promises 25 to 42: TREE, CODE, SEARCH, tallies. */
final class BoundsTrees {
    private static final int[] UP = {1, 2, 3, 4, 5, 6, 7, 8};
    private static final int[] DOWN = {8, 7, 6, 5, 4, 3, 2, 1};
    private static final int[] ONES = {1, 1, 1, 1, 1, 1, 1, 1};

    private BoundsTrees() {
    }

    private static ParkingTrees eight(int... wishes) {
        return Kit.wishes(8, 0, 5, wishes);
    }

    private static ParkingTrees one() {
        return Kit.wishes(1, 0, 5, 1);
    }

    /** As many CARS as places, but one LOST by LAW 0; by the LAW told all park. */
    private static ParkingTrees unlawful() {
        return Kit.wishes(3, 3, 5, 1, 3, 3);
    }

    private static ParkingTrees tooFew() {
        return Kit.wishes(3, 0, 5, 1, 2);
    }

    // ---- terms V to VII

    static void t5_chainsAndStars() {
        Kit.each("each hangs from the one ahead", eight(UP)::parent, 0, 0, 1, 2, 3, 4, 5, 6, 7);
        Kit.each("each hangs from the one behind", eight(DOWN)::parent, 0, 2, 3, 4, 5, 6, 7, 8, 0);
        Kit.each("all hang from NODE 0", eight(ONES)::parent, 0, 0, 0, 0, 0, 0, 0, 0, 0);
        Kit.due("all pairs TURNED", eight(DOWN).inversions(), 28);
        Kit.due("none TURNED", eight(UP).inversions(), 0);
        Kit.due("beside one another is not TURNED", eight(ONES).inversions(), 0);
        // 0 - 2, from which hang 1 and 3
        Kit.due("of two that hang from 2 the lesser", Kit.wishes(3, 0, 5, 2, 1, 2).inversions(), 1);
    }

    static void t6_codes() {
        Kit.each("NODE 0, too, is taken off", eight(UP)::code, 0, 1, 2, 3, 4, 5, 6, 7, -1);
        Kit.each("NODE 0 first", eight(DOWN)::code, 0, 8, 2, 3, 4, 5, 6, 7, -1);
        Kit.each("NODE 0 last", eight(ONES)::code, 0, 0, 0, 0, 0, 0, 0, 0, -1);
        Kit.each("none of 1 place", one()::code, 0, -1, -1);
        Kit.each("one of 2 places", Kit.wishes(2, 0, 5, 1, 1)::code, 0, 0, -1);
        Kit.each("one of 2 places", Kit.wishes(2, 0, 5, 1, 2)::code, 0, 1, -1);
        Kit.each("one of 2 places", Kit.wishes(2, 0, 5, 2, 1)::code, 0, 2, -1);
    }

    static void t7_searches() {
        Kit.each("without grains the greatest first", eight(ONES)::visit, 0, 0, 8, 7, 6, 5, 4, 3, 2, 1);
        Kit.each("a chain", eight(ONES)::burnt, 0, 2, 3, 4, 5, 6, 7, 8, 0);
        Kit.due("as many as STEPS", eight(ONES).turned(), 28);
        Kit.each("grains of one less each", eight(UP)::visit, 0, 0, 1, 2, 3, 4, 5, 6, 7, 8);
        Kit.due("none", eight(UP).turned(), 0);
        // CAR 1 has lost its grain at NODE 0, ahead of CAR 0, so the two hang in a row
        Kit.each("one grain", Kit.wishes(2, 0, 5, 1, 2)::burnt, 0, 0, 1);
        Kit.each("one grain", Kit.wishes(2, 0, 5, 2, 1)::burnt, 0, 0, 0);
    }

    // ---- promises 25 to 31

    static void p25_parent() {
        Kit.bounded("parent", eight(UP)::parent, -2, 0, 7);
        Kit.due("one place", one().parent(0), 0);
        Kit.each("not LAWFUL", unlawful()::parent, -1, -2, -1, -1, -1, -2);
        Kit.each("too few", tooFew()::parent, -1, -2, -1, -1, -2, -2);
        Kit.due("no STREET", new ParkingTrees().parent(0), -2);
    }

    static void p26_depth() {
        Kit.each("a chain", eight(DOWN)::depth, 0, 8, 7, 6, 5, 4, 3, 2, 1);
        Kit.each("a star", eight(ONES)::depth, 0, 1, 1, 1, 1, 1, 1, 1, 1);
        Kit.bounded("depth", eight(UP)::depth, -2, 0, 7);
        Kit.each("not LAWFUL", unlawful()::depth, -1, -2, -1, -1, -1, -2);
        Kit.each("too few", tooFew()::depth, -1, -2, -1, -1, -2);
        Kit.due("no STREET", new ParkingTrees().depth(0), -2);
    }

    static void p27_kids() {
        Kit.each("a star", eight(ONES)::kids, -1, -2, 255, 0, 0, 0, 0, 0, 0, 0, 0, -2);
        Kit.each("a chain", eight(UP)::kids, -1, -2, 1, 2, 4, 8, 16, 32, 64, 128, 0, -2);
        Kit.bounded("kids", eight(UP)::kids, -2, 0, 8);
        Kit.each("not LAWFUL", unlawful()::kids, -1, -2, -1, -1, -1, -1, -2);
        Kit.due("no CARS, NODE 0 is there", Kit.wishes(3, 0, 5).kids(0), -1);
        Kit.due("no STREET", new ParkingTrees().kids(0), -2);
    }

    static void p28_queue() {
        Kit.each("up", eight(UP)::queue, -1, -2, 0, 1, 2, 3, 4, 5, 6, 7, 8, -2);
        Kit.each("down", eight(DOWN)::queue, -1, -2, 0, 8, 7, 6, 5, 4, 3, 2, 1, -2);
        Kit.bounded("queue", eight(UP)::queue, -2, 0, 8);
        Kit.each("one place", one()::queue, -1, -2, 0, 1, -2);
        Kit.each("not LAWFUL", unlawful()::queue, -1, -2, -1, -1, -1, -1, -2);
        Kit.each("too few: 0 .. places all the same", tooFew()::queue, -1, -2, -1, -1, -1, -1, -2);
        Kit.due("no STREET", new ParkingTrees().queue(0), -2);
    }

    static void p29_leaves() {
        Kit.due("a star", eight(ONES).leaves(), 255);
        Kit.due("a chain", eight(UP).leaves(), 128);
        Kit.due("a chain", eight(DOWN).leaves(), 1);
        Kit.due("one place", one().leaves(), 1);
        Kit.due("not LAWFUL", unlawful().leaves(), -1);
        Kit.due("too few", tooFew().leaves(), -1);
        Kit.due("no STREET", new ParkingTrees().leaves(), -2);
    }

    static void p30_inversions() {
        Kit.due("all", eight(DOWN).inversions(), 28);
        Kit.due("one place", one().inversions(), 0);
        Kit.due("not LAWFUL", unlawful().inversions(), -1);
        Kit.due("too few", tooFew().inversions(), -1);
        Kit.due("no STREET", new ParkingTrees().inversions(), -2);
    }

    static void p31_code() {
        Kit.each("the last number and one more", eight(UP)::code, 6, 7, -1, -1);
        Kit.due("far above", eight(UP).code(Integer.MAX_VALUE), -1);
        Kit.due("below 0", eight(UP).code(-1), -2);
        Kit.due("far below", eight(UP).code(Integer.MIN_VALUE), -2);
        Kit.due("none of 1 place", one().code(0), -1);
        Kit.due("1 place, below 0", one().code(-1), -2);
        Kit.each("not LAWFUL", unlawful()::code, -1, -2, -1, -1, -1);
        Kit.each("too few", tooFew()::code, -1, -2, -1, -1, -1);
        Kit.due("no STREET", new ParkingTrees().code(0), -2);
    }

    static void p31_codeBehindActs() {
        ParkingTrees x = eight(UP);
        Kit.each("up", x::code, 0, 1, 2, 3, 4, 5, 6, 7, -1);
        x.wants(1, 1);
        // NODE 1 and NODE 2 hang from 0, the others in a row from 2: 1 is taken off, then 0, 2, 3, ..
        Kit.each("two hang from NODE 0", x::code, 0, 0, 2, 3, 4, 5, 6, 7, -1);
        x.undo();
        Kit.each("up again", x::code, 0, 1, 2, 3, 4, 5, 6, 7, -1);
    }

    // ---- promises 32 to 34

    static void p32_burnt() {
        Kit.bounded("burnt", eight(UP)::burnt, -2, 0, 7);
        Kit.due("one place", one().burnt(0), 0);
        Kit.each("not LAWFUL", unlawful()::burnt, -1, -2, -1, -1, -1, -2);
        Kit.each("too few", tooFew()::burnt, -1, -2, -1, -1, -2);
        Kit.due("no STREET", new ParkingTrees().burnt(0), -2);
    }

    static void p33_turned() {
        Kit.due("one place", one().turned(), 0);
        Kit.due("by LAW 0, whatever is told", Kit.wishes(3, 2, 5, 2, 2, 1).turned(), 1);
        Kit.due("not LAWFUL", unlawful().turned(), -1);
        Kit.due("too few", tooFew().turned(), -1);
        Kit.due("no STREET", new ParkingTrees().turned(), -2);
    }

    static void p34_visit() {
        Kit.bounded("visit", eight(DOWN)::visit, -2, 0, 8);
        Kit.each("one place", one()::visit, -1, -2, 0, 1, -2);
        Kit.each("not LAWFUL", unlawful()::visit, -1, -2, -1, -1, -1, -1, -2);
        Kit.each("too few: 0 .. places all the same", tooFew()::visit, -1, -2, -1, -1, -1, -1, -2);
        Kit.due("no STREET", new ParkingTrees().visit(0), -2);
    }

    // ---- promises 35 to 38: each asks its row in one way

    private static void codeAnswers(String call, ParkingTrees x, int slot, int car, int want) {
        Kit.due(call + " above", x.above(slot, car), want);
        Kit.due(call + " wish", x.wish(slot, car), want);
        Kit.due(call + " regain", x.regain(slot, car), want);
    }

    static void p35_above() {
        ParkingTrees x = Kit.wishes(8, 0, 5);
        Kit.row(x, 0, 0, 8, 8, 8, 8, 8, 8, 8);
        Kit.each("a star around CAR 7, told or not", car -> x.above(0, car), -1, -2, 8, 8, 8, 8, 8, 8, 8, 0, -2);
        Kit.bounded("CAR", car -> x.above(0, car), -2, 0, 7);
        Kit.row(x, 3, 3, 0, 0, 0, 0, 0, 0, 0);
        Kit.each("a star around NODE 0", car -> x.above(3, car), 0, 0, 0, 0, 0, 0, 0, 0, 0);
        Kit.row(x, 3, 3, 1, 2, 3, 4, 5, 6, 7);
        Kit.each("a chain", car -> x.above(3, car), 0, 0, 1, 2, 3, 4, 5, 6, 7);
    }

    static void p35_asked() {
        ParkingTrees x = Kit.wishes(3, 0, 5, 1);
        codeAnswers("nothing,", x, 0, 2, -6);
        for (int bad : new int[] {Integer.MIN_VALUE, -1, 3, Integer.MAX_VALUE}) {
            codeAnswers("-2 ahead of -6, CAR " + bad, x, 0, bad, -2);
        }
        for (int bad : new int[] {Integer.MIN_VALUE, -1, 4, Integer.MAX_VALUE}) {
            codeAnswers("SLOT " + bad, x, bad, 0, -2);
            Kit.due("SLOT " + bad + " upset", x.upset(bad), -2);
        }
        ParkingTrees none = new ParkingTrees();
        codeAnswers("no STREET, nothing,", none, 0, 0, -2);
        Kit.due("no STREET, nothing, upset", none.upset(0), -2);
        none.row(0, 0, 0);
        codeAnswers("no STREET", none, 0, 0, -2);
        Kit.due("no STREET upset", none.upset(0), -2);
    }

    static void p35_numbersAskedLast() {
        ParkingTrees x = Kit.wishes(3, 0, 5, 1);
        long[][] wrong = {{}, {0}, {0, 0, 0}, {4, 0}, {0, 4}, {-1, 0}, {0, -1}, {Integer.MAX_VALUE, 0},
            {0, Long.MIN_VALUE}, {1L << 32, 0}, new long[60]};
        for (long[] numbers : wrong) {
            Kit.row(x, 1, 3, numbers);
            codeAnswers(numbers.length + " numbers,", x, 1, 0, -2);
            Kit.due("upset", x.upset(1), -2);
        }
        for (long[] numbers : new long[][] {{0, 3}, {3, 0}, {3, 3}, {0, 0}}) {
            Kit.row(x, 1, 3, numbers);
            Kit.due("0 and places are numbers", x.upset(1) >= 0 ? 1 : 0, 1);
        }
    }

    static void p35_onePlace() {
        ParkingTrees x = Kit.wishes(1, 0, 5);
        x.row(2, 3, 0);
        Kit.due("above", x.above(2, 0), 0);
        Kit.due("wish", x.wish(2, 0), 1);
        Kit.due("regain", x.regain(2, 0), 1);
        Kit.due("upset", x.upset(2), 0);
        codeAnswers("CAR 1", x, 2, 1, -2);
        x.row(2, 3, 1);
        codeAnswers("one number too many,", x, 2, 0, -2);
        Kit.due("upset", x.upset(2), -2);
    }

    static void p36_wish() {
        ParkingTrees x = Kit.wishes(8, 0, 5);
        Kit.row(x, 0, 0, 1, 2, 3, 4, 5, 6, 7);
        Kit.each("up", car -> x.wish(0, car), -1, -2, 1, 2, 3, 4, 5, 6, 7, 8, -2);
        Kit.row(x, 0, 0, 8, 2, 3, 4, 5, 6, 7);
        Kit.each("down", car -> x.wish(0, car), 0, 8, 7, 6, 5, 4, 3, 2, 1);
        Kit.row(x, 0, 0, 0, 0, 0, 0, 0, 0, 0);
        Kit.each("ones", car -> x.wish(0, car), 0, 1, 1, 1, 1, 1, 1, 1, 1);
        Kit.bounded("CAR", car -> x.wish(0, car), -2, 0, 7);
        Kit.due("nothing", x.wish(1, 0), -6);
    }

    static void p37_regain() {
        ParkingTrees x = Kit.wishes(8, 0, 5);
        Kit.row(x, 0, 0, 1, 2, 3, 4, 5, 6, 7);
        Kit.each("up", car -> x.regain(0, car), -1, -2, 1, 2, 3, 4, 5, 6, 7, 8, -2);
        Kit.row(x, 0, 0, 8, 2, 3, 4, 5, 6, 7);
        Kit.each("ones", car -> x.regain(0, car), 0, 1, 1, 1, 1, 1, 1, 1, 1);
        // all hang from NODE 0: each greater CAR was done when it came to a lesser one, and looked at each of these
        Kit.row(x, 0, 0, 0, 0, 0, 0, 0, 0, 0);
        Kit.each("a star", car -> x.regain(0, car), 0, 8, 7, 6, 5, 4, 3, 2, 1);
        Kit.bounded("CAR", car -> x.regain(0, car), -2, 0, 7);
        Kit.due("nothing", x.regain(1, 0), -6);
    }

    static void p38_upset() {
        ParkingTrees x = Kit.wishes(8, 0, 5);
        Kit.row(x, 0, 0, 8, 2, 3, 4, 5, 6, 7);
        Kit.due("all pairs", x.upset(0), 28);
        Kit.row(x, 0, 0, 1, 2, 3, 4, 5, 6, 7);
        Kit.due("no pair", x.upset(0), 0);
        Kit.row(x, 0, 0, 8, 8, 8, 8, 8, 8, 8);
        Kit.due("a star", x.upset(0), 7);
        Kit.due("nothing", x.upset(1), -6);
        Kit.bounded("SLOT", x::upset, -2, 0, 3);
        Kit.row(x, 0, 0, 8, 8, 8, 8, 8, 8);
        Kit.due("one too few", x.upset(0), -2);
    }

    // ---- promises 39 to 42

    static void p39_rows() {
        ParkingTrees x = Kit.wishes(1, 3, 5);
        Kit.each("rows", x::rows, -1, -2, -2, 1, 3, 16, 125, 1296, -2);
        Kit.bounded("n", x::rows, -2, 1, 5);
        Kit.due("no STREET", new ParkingTrees().rows(1), -2);
    }

    static void p40_moved() {
        ParkingTrees x = Kit.wishes(1, 3, 5);
        Kit.bounded("n", n -> x.moved(n, 0), -2, 1, 5);
        Kit.bounded("k", k -> x.moved(5, k), -2, 0, 20);
        Kit.each("1", k -> x.moved(1, k), -1, -2, 1, 0, 0);
        Kit.each("2", k -> x.moved(2, k), 0, 2, 1, 0);
        Kit.each("3", k -> x.moved(3, k), 0, 6, 6, 3, 1, 0);
        Kit.each("5, the most STEPS", k -> x.moved(5, k), 9, 5, 1, 0, 0, 0, 0, 0, 0, 0, 0, 0, 0, -2);
        Kit.due("no STREET", new ParkingTrees().moved(1, 0), -2);
    }

    static void p41_trees() {
        ParkingTrees x = Kit.wishes(1, 3, 5);
        Kit.bounded("n", n -> x.trees(n, 0), -2, 1, 5);
        Kit.bounded("k", k -> x.trees(5, k), -2, 0, 20);
        Kit.each("1", k -> x.trees(1, k), -1, -2, 1, 0, 0);
        Kit.each("5, the most TURNED", k -> x.trees(5, k), 9, 5, 1, 0, 0, 0, 0, 0, 0, 0, 0, 0, 0, -2);
        Kit.due("5, none TURNED", x.trees(5, 0), 120);
        Kit.due("no STREET", new ParkingTrees().trees(1, 0), -2);
    }

    static void p42_ends() {
        ParkingTrees x = Kit.wishes(1, 3, 5);
        Kit.bounded("n", n -> x.ends(n, 1), -2, 1, 5);
        for (int n = 1; n <= 5; n++) {
            int all = n;
            Kit.bounded("p of " + n, p -> x.ends(all, p), -2, 1, n);
        }
        Kit.each("1", p -> x.ends(1, p), 0, -2, 1, -2);
        Kit.each("2", p -> x.ends(2, p), 0, -2, 1, 2, -2);
        Kit.each("3", p -> x.ends(3, p), 0, -2, 3, 4, 9, -2);
        int together = 0;
        for (int p = 1; p <= 5; p++) {
            together += x.ends(5, p);
        }
        Kit.due("all rows of 5", together, 1296);
        Kit.due("no STREET", new ParkingTrees().ends(1, 1), -2);
    }
}
