/** Boundary cases of promises 71 to 83: acts, mornings, counts, IMAGES, SLOTS. */
final class BoundsActs {
    private static final String EIGHT = "street places 8 law 0 odds 5;" + "car wants 8 stands 50;".repeat(8);

    private BoundsActs() {
    }

    private static void actTwenty(ParkingTrees x) {
        for (int i = 1; i <= 20; i++) {
            x.wants(0, 1 + i % 8);
            Kit.due("acts", x.count(5), i);
        }
    }

    static void p71_wants() {
        ParkingTrees x = Kit.told(EIGHT);
        Kit.bounded("CAR", car -> x.wants(car, 8), -2, 0, 7);
        Kit.bounded("place", place -> x.wants(7, place), -2, 1, 8);
        Kit.due("refused calls are no acts", x.count(5), 4);
        Kit.due("how many are LOST", x.wants(7, 1), 6);
        Kit.due("no CARS", Kit.wishes(8, 0, 5).wants(0, 1), -2);
        Kit.due("no STREET", new ParkingTrees().wants(0, 1), -2);
    }

    static void p71_twentyActs() {
        ParkingTrees x = Kit.told(EIGHT);
        actTwenty(x);
        int wish = x.car(0, 0);
        Kit.due("one more", x.wants(0, 8), -5);
        Kit.due("it stays", x.car(0, 0), wish);
        Kit.due("it stays", x.count(5), 20);
        Kit.due("-2 ahead of -5", x.wants(8, 8), -2);
        Kit.due("-2 ahead of -5", x.wants(-1, 8), -2);
        Kit.due("-2 ahead of -5", x.wants(0, 9), -2);
        Kit.due("-2 ahead of -5", x.wants(0, 0), -2);
        x.undo();
        Kit.due("room for one", x.wants(0, 8), 7);
        Kit.due("and no more", x.wants(0, 8), -5);
    }

    static void p72_trades() {
        ParkingTrees x = Kit.wishes(3, 0, 5, 1, 3, 3);
        Kit.bounded("the first", car -> x.trades(car, 1), -2, 2, 2);
        Kit.due("one twice", x.trades(1, 1), -2);
        Kit.due("none, twice", x.trades(3, 3), -2);
        Kit.due("the other one", x.trades(0, 3), -2);
        Kit.due("the other one", x.trades(0, -1), -2);
        Kit.due("how many are LOST", x.trades(2, 0), 1);
        Kit.each("wishes", car -> x.car(car, 0), 0, 3, 3, 1);
        Kit.due("of alike wishes it is an act, too", x.trades(0, 1), 1);
        Kit.due("no STREET", new ParkingTrees().trades(0, 1), -2);
        Kit.due("one CAR", Kit.wishes(3, 0, 5, 1).trades(0, 1), -2);
    }

    static void p72_twentyActs() {
        ParkingTrees x = Kit.told(EIGHT);
        actTwenty(x);
        Kit.due("one more", x.trades(0, 1), -5);
        Kit.due("it stays", x.car(1, 0), 8);
        Kit.due("-2 ahead of -5", x.trades(0, 0), -2);
        Kit.due("-2 ahead of -5", x.trades(0, 8), -2);
        Kit.due("-2 ahead of -5", x.trades(8, 0), -2);
        Kit.due("it stays", x.count(5), 20);
    }

    static void p73_undo() {
        ParkingTrees x = Kit.told(EIGHT);
        Kit.due("there is none", x.undo(), -5);
        actTwenty(x);
        for (int left = 19; left >= 0; left--) {
            Kit.due("undo", x.undo(), left);
            Kit.due("count(5)", x.count(5), left);
            Kit.due("the wish before", x.car(0, 0), left == 0 ? 8 : 1 + left % 8);
        }
        Kit.due("there is none any more", x.undo(), -5);
        Kit.due("no STREET", new ParkingTrees().undo(), -2);
    }

    static void p74_anew() {
        ParkingTrees x = Kit.told(EIGHT);
        Kit.due("there were none", x.anew(), 0);
        actTwenty(x);
        Kit.due("there were 20", x.anew(), 20);
        Kit.due("there are none", x.count(5), 0);
        Kit.due("as told", x.car(0, 0), 8);
        Kit.due("none to take back", x.undo(), -5);
        actTwenty(x);
        Kit.due("no STREET", new ParkingTrees().anew(), -2);
    }

    static void p75_drawn() {
        // draws from 0: 0 8 8 7 8 7 5 1; from 2,000,000,000: 4 3 1 7 6 2 7 7
        ParkingTrees x = Kit.told(EIGHT);
        Kit.due("seed 0", x.drawn(0, 0), Kit.bits(0, 7));
        Kit.due("seed 2,000,000,000", x.drawn(2000000000, 0), Kit.bits(0, 1, 2, 5));
        Kit.due("all want 8, the others are LOST", x.drawn(2000000000, 1), 0);
        Kit.bounded("seed", seed -> x.drawn(seed, 0), -2, 0, 2000000000);
        Kit.bounded("what", what -> x.drawn(0, what), -2, 0, 1);
        ParkingTrees y = BoundsRows.alike(8, 3, 8);
        // four come, and have 8, 1, 2, 3
        Kit.due("sum() of those that come", y.drawn(2000000000, 1), 18);
        Kit.due("the street stays", y.sum(), 28);
        Kit.due("no CARS", Kit.wishes(8, 0, 10).drawn(0, 0), 0);
        Kit.due("no CARS", Kit.wishes(8, 0, 10).drawn(0, 1), 0);
        Kit.due("no STREET", new ParkingTrees().drawn(0, 0), -2);
    }

    static void p76_luck() {
        // first draws from 1,999,999,999 on: 3 4 2
        ParkingTrees x = Kit.wishes(1, 0, 4, 1);
        Kit.each("n", n -> x.luck(1999999999, n, 0), 0, -2, 1, 1, 2);
        Kit.due("seeds go on above their bound", x.luck(2000000000, 2, 0), 1);
        ParkingTrees y = Kit.wishes(2, 0, 10, 2, 2);
        Kit.each("n", n -> y.luck(5, n, 0), 19, 19, 20, -2);
        Kit.due("LOST each time", y.luck(5, 20, 1), 0);
        Kit.bounded("n", n -> y.luck(5, n, 0), -2, 1, 20);
        Kit.bounded("CAR", car -> y.luck(5, 1, car), -2, 0, 1);
        Kit.bounded("seed", seed -> y.luck(seed, 20, 0), -2, 0, 2000000000);
        Kit.due("odds 0", Kit.wishes(1, 0, 0, 1).luck(0, 20, 0), 0);
        Kit.due("no CARS", Kit.wishes(1, 0, 10).luck(0, 1, 0), -2);
        Kit.due("no STREET", new ParkingTrees().luck(0, 1, 0), -2);
    }

    static void p77_rate() {
        ParkingTrees x = Kit.told(EIGHT);
        Kit.bounded("n", n -> x.rate(0, n), -2, 0, 99);
        Kit.bounded("CAR", car -> x.rate(car, 50), -2, 0, 7);
        Kit.due("where it stood", x.rate(0, 0), 50);
        Kit.due("at 0", x.rate(0, 99), 0);
        Kit.due("at 99", x.rate(0, 99), 99);
        Kit.due("it is no act", x.count(5), 0);
        x.wants(0, 1);
        Kit.due("there were acts", x.rate(0, 1), -5);
        Kit.due("-2 ahead of -5", x.rate(0, 100), -2);
        Kit.due("-2 ahead of -5", x.rate(0, -1), -2);
        Kit.due("-2 ahead of -5", x.rate(8, 0), -2);
        Kit.due("it stays", x.car(0, 1), 99);
        x.anew();
        Kit.due("none any more", x.rate(0, 1), 99);
        Kit.due("no STREET", new ParkingTrees().rate(0, 0), -2);
    }

    static void p78_count() {
        ParkingTrees x = Kit.told(EIGHT + "join 1 9;");
        Kit.bounded("what", x::count, -1, 0, 8);
        Kit.each("count", x::count, -1, -1, 8, 0, 5, 8, 1, 0, 10, 0, 0, -1);
        BoundsTape.feedBlanks(x);
        x.end(7);
        x.wants(0, 1);
        for (int slot = 0; slot < 4; slot++) {
            x.row(slot, 0, 0);
            x.row(slot, 1, 60);
        }
        Kit.each("count", x::count, 5, 1, 10, 7, 4);
        Kit.each("no STREET", new ParkingTrees()::count, -1, -1, 0, 0, 0, 0, 0, 0, 0, 0, 0, -1);
    }

    static void p79_image() {
        ParkingTrees x = Kit.told(EIGHT);
        Kit.bounded("k", x::image, -2, 0, 2);
        Kit.each("image", x::image, 0, 0, 0, 0);
        actTwenty(x);
        Kit.due("in place of another", x.image(2), 0);
        x.street();
        Kit.due("back(2)", x.back(2), 0);
        Kit.due("all acts", x.count(5), 20);
        Kit.due("it is full", x.wants(0, 1), -5);
        Kit.due("back(1)", x.back(1), 0);
        Kit.due("no acts", x.count(5), 0);
    }

    static void p80_back() {
        ParkingTrees x = Kit.told(EIGHT);
        Kit.bounded("k", x::back, -2, 0, 2);
        Kit.each("it has nothing", x::back, -1, -2, -6, -6, -6, -2);
        Kit.due("it stays", x.count(3), 8);
        x.image(1);
        Kit.each("the others have nothing", x::back, -1, -2, -6, 0, -6, -2);
        x.row(0, 0, 1);
        x.back(1);
        Kit.due("SLOTS stay", x.count(8), 1);
        x.wants(0, 1);
        Kit.due("back(1)", x.back(1), 0);
        Kit.due("the act is gone", x.undo(), -5);
        Kit.due("the wish is back", x.car(0, 0), 8);
    }

    static void p80_everyActIsKept() {
        ParkingTrees x = Kit.told("street places 8 law 0 odds 5;car wants 8 stands 0;car wants 7 stands 0;"
            + "car wants 6 stands 0;");
        int[] first = new int[21];
        int[] last = new int[21];
        for (int acts = 0; acts <= 20; acts++) {
            first[acts] = x.car(0, 0);
            last[acts] = x.car(2, 0);
            if (acts % 3 == 2) {
                x.trades(2, acts % 2);
            } else {
                x.wants(acts % 3 * 2, 1 + acts % 7);
            }
        }
        x.image(2);
        x.anew();
        // other acts of the other kind in their place
        for (int i = 0; i < 20; i++) {
            if (i % 3 == 2) {
                x.wants(1, 4);
            } else {
                x.trades(1, 0);
            }
        }
        Kit.due("back(2)", x.back(2), 0);
        for (int acts = 20; acts >= 0; acts--) {
            Kit.due("count(5)", x.count(5), acts);
            Kit.due("CAR 0 behind " + acts, x.car(0, 0), first[acts]);
            Kit.due("CAR 2 behind " + acts, x.car(2, 0), last[acts]);
            x.undo();
        }
        Kit.due("back(2)", x.back(2), 0);
        Kit.due("an IMAGE stays as it is", x.count(5), 20);
    }

    static void p81_row() {
        ParkingTrees x = new ParkingTrees();
        Kit.bounded("SLOT", slot -> x.row(slot, 0, 1), -2, 0, 3);
        Kit.bounded("WIDTH", width -> x.row(0, width, 1), -2, 0, 3);
        Kit.each("n", n -> x.row(0, 0, n), -2, -3, -3, 0, 0);
        Kit.each("n", n -> x.row(0, 0, n), 59, 0, 0, -2, -2);
        Kit.due("far above", x.row(0, 0, Integer.MAX_VALUE), -2);
        Kit.due("far below", x.row(0, 0, Integer.MIN_VALUE), -3);
        Kit.due("-2 ahead of -3", x.row(4, 0, -1), -2);
        Kit.due("-2 ahead of -3", x.row(0, 4, -1), -2);
    }

    static void p81_theSlotStays() {
        ParkingTrees x = Kit.wishes(2, 0, 5);
        Kit.row(x, 0, 0, 2);
        Kit.due("n below 0", x.row(0, 1, -1), -3);
        Kit.due("n above 60", x.row(0, 1, 61), -2);
        Kit.due("no WIDTH", x.row(0, 4, 1), -2);
        Kit.due("as it was", x.above(0, 0), 2);
        x.write(0, 0, 257);
        Kit.due("of its WIDTH", x.above(0, 0), 0);
        Kit.due("n below 0, of a SLOT that has nothing", x.row(1, 0, -1), -3);
        Kit.due("nothing still", x.write(1, 0, 0), -6);
        Kit.due("a row in place of another is all 0", x.row(0, 0, 1), 0);
        Kit.due("all 0", x.above(0, 1), 0);
        x.write(0, 0, 2);
        x.row(0, 0, 0);
        Kit.due("of none", x.write(0, 0, 1), -7);
        x.row(0, 3, 1);
        Kit.due("all 0 again", x.above(0, 0), 0);
    }

    static void p82_write() {
        ParkingTrees x = new ParkingTrees();
        Kit.due("it has nothing", x.write(0, 0, 1), -6);
        Kit.due("-6 ahead of -7", x.write(0, -1, 1), -6);
        Kit.due("-6 ahead of -7", x.write(0, 60, 1), -6);
        for (int slot = 0; slot < 4; slot++) {
            x.row(slot, slot, 60);
        }
        Kit.bounded("SLOT", slot -> x.write(slot, 0, 1), -2, 0, 3);
        Kit.bounded("number", i -> x.write(0, i, 1), -7, 0, 59);
        Kit.due("-2 ahead of -7", x.write(4, -1, 1), -2);
        x.row(0, 0, 0);
        Kit.each("a row of none", i -> x.write(0, i, 1), -1, -7, -7, -7);
    }

    static void p82_cutToItsWidth() {
        ParkingTrees x = Kit.wishes(2, 0, 5);
        long[] edges = {127, 128, 255, 256, 32767, 32768, 65535, 65536, 2147483647L, 2147483648L, 4294967295L,
            4294967296L, Long.MAX_VALUE, Long.MIN_VALUE, -1, -128, -129, -256, -32768, -65536, -4294967296L};
        for (int width = 0; width < 4; width++) {
            x.row(0, width, 1);
            for (long v : edges) {
                Kit.due("write", x.write(0, 0, v), 0);
                // what is left of it is 0, or no NODE at all
                boolean nought = width < 3 && v << 64 - (8 << width) == 0;
                Kit.due("WIDTH " + width + ", " + v, x.above(0, 0), nought ? 0 : -2);
            }
        }
    }

    static void p83_paste() {
        ParkingTrees x = new ParkingTrees();
        x.row(0, 2, 60);
        x.row(1, 2, 5);
        x.row(2, 3, 5);
        Kit.bounded("SLOT", slot -> x.paste(slot, 0, slot, 0, 0), -2, 0, 3);
        Kit.bounded("of", slot -> x.paste(slot, 0, 0, 0, 0), -2, 0, 3);
        Kit.bounded("to", slot -> x.paste(0, 0, slot, 0, 0), -2, 0, 3);
        Kit.due("of nothing", x.paste(3, 0, 0, 0, 0), -6);
        Kit.due("to nothing", x.paste(0, 0, 3, 0, 0), -6);
        Kit.due("nothing to itself", x.paste(3, 0, 3, 0, 0), -6);
        Kit.due("another WIDTH", x.paste(1, 0, 2, 0, 0), -8);
        Kit.bounded("from", i -> x.paste(0, i, 1, 0, 2), -7, 0, 58);
        Kit.bounded("on", k -> x.paste(0, 0, 1, k, 2), -7, 0, 3);
        Kit.bounded("n by the one to which", n -> x.paste(0, 0, 1, 0, n), -7, 0, 5);
        Kit.bounded("n by the one of which", n -> x.paste(1, 0, 0, 0, n), -7, 0, 5);
        Kit.bounded("n, all of a row to itself", n -> x.paste(0, 0, 0, 0, n), -7, 0, 60);
        Kit.bounded("none, from the end", i -> x.paste(1, i, 0, 0, 0), -7, 0, 5);
        Kit.bounded("none, to the end", k -> x.paste(0, 0, 1, k, 0), -7, 0, 5);
    }

    static void p83_whatIsAskedFirst() {
        ParkingTrees x = new ParkingTrees();
        x.row(0, 0, 5);
        x.row(1, 1, 5);
        Kit.due("-2 ahead of -6", x.paste(2, 0, 4, 0, 0), -2);
        Kit.due("-2 ahead of -6", x.paste(-1, 0, 2, 0, 0), -2);
        Kit.due("-6 ahead of -7", x.paste(2, -1, 0, 0, 0), -6);
        Kit.due("-6 ahead of -7", x.paste(0, 9, 2, 9, 9), -6);
        Kit.due("-8 ahead of -7", x.paste(0, -1, 1, -1, -1), -8);
        Kit.due("-8 ahead of -7", x.paste(0, 0, 1, 0, 6), -8);
    }

    private static void holds(String call, ParkingTrees x, int slot, long... code) {
        ParkingTrees y = Kit.wishes(6, 0, 5);
        Kit.row(y, 0, 3, code);
        for (int car = 0; car < 6; car++) {
            Kit.due(call + ", above " + car, x.above(slot, car), y.above(0, car));
        }
    }

    static void p83_asTheyWere() {
        ParkingTrees x = Kit.wishes(6, 0, 5);
        Kit.row(x, 0, 0, 1, 2, 3, 4, 5);
        x.paste(0, 0, 0, 1, 4);
        holds("to its own, upwards", x, 0, 1, 1, 2, 3, 4);
        Kit.row(x, 0, 0, 1, 2, 3, 4, 5);
        x.paste(0, 1, 0, 0, 4);
        holds("to its own, downwards", x, 0, 2, 3, 4, 5, 5);
        Kit.row(x, 0, 0, 1, 2, 3, 4, 5);
        Kit.row(x, 1, 0, 6, 6, 6, 6, 6);
        Kit.due("beyond", x.paste(0, 3, 1, 0, 3), -7);
        Kit.due("beyond", x.paste(0, 0, 1, 3, 3), -7);
        holds("nothing happens", x, 1, 6, 6, 6, 6, 6);
        Kit.due("the last to the first", x.paste(0, 4, 1, 0, 1), 0);
        holds("one", x, 1, 5, 6, 6, 6, 6);
        holds("its own row stays", x, 0, 1, 2, 3, 4, 5);
        Kit.due("all", x.paste(0, 0, 1, 0, 5), 0);
        holds("all", x, 1, 1, 2, 3, 4, 5);
        x.write(0, 0, 6);
        holds("a copy, not the row itself", x, 1, 1, 2, 3, 4, 5);
    }
}
