/** Boundary cases of terms X to XIII and promises 56 to 70: advice, SEEN, shares, the GAME, CHANCE. */
final class BoundsAdvice {
    private BoundsAdvice() {
    }

    private static ParkingTrees none(int law) {
        return Kit.wishes(8, law, 5);
    }

    /** By LAW 0 CAR 0 on 1 leaves 1 2 3, on 2 leaves 2 3 LOST, on 3 leaves 3 2 LOST. */
    private static ParkingTrees doubtful(long... row) {
        ParkingTrees x = Kit.wishes(3, 0, 5, 2, 2, 3);
        Kit.row(x, 1, 0, row);
        return x;
    }

    // ---- terms X to XIII

    static void t10_anyPlace() {
        Kit.due("nothing SEEN", doubtful().fits(1, 0), 7);
        Kit.due("that which it wants, too", doubtful(0, 2, 1, 3, 2, 0).fits(1, 0), 2);
        Kit.due("LOST", doubtful(2, 0).fits(1, 0), 6);
        Kit.due("one CAR twice, alike", doubtful(2, 0, 2, 0).fits(1, 0), 6);
        Kit.due("one CAR twice, on two places", doubtful(1, 2, 1, 3).fits(1, 0), 0);
        ParkingTrees x = doubtful(0, 1);
        x.wants(0, 1);
        Kit.due("behind all acts", x.fits(1, 0), 1);
        Kit.due("all else as now", x.fits(1, 1), 7);
        Kit.due("it stays", x.car(0, 0), 1);
        Kit.due("it is no act", x.count(5), 1);
    }

    static void t11_meansOfOrders() {
        ParkingTrees x = BoundsRows.alike(8, 0, 1);
        // of so many that come each two make one STEP
        Kit.each("alike for all", car -> x.share(car, 0), 0, 7, 7, 7, 7, 7, 7, 7, 7);
        Kit.each("alike for all", car -> x.share(car, 1), 0, 2, 2, 2, 2, 2, 2, 2, 2);
        // CARS of a set come by numbers: CAR 0 has place 1, whichever grows the set
        ParkingTrees y = Kit.wishes(2, 0, 5, 1, 1);
        Kit.due("half a STEP", y.share(0, 0), 1);
        Kit.due("half a STEP", y.share(0, 1), 2);
        Kit.due("half a STEP", y.share(1, 0), 1);
        ParkingTrees v = Kit.wishes(3, 0, 5, 3, 2, 2);
        Kit.each("below 0, too", car -> v.share(car, 0), 0, -1, 1, 1);
        Kit.each("lowest terms", car -> v.share(car, 1), 0, 3, 6, 6);
    }

    static void t12_oneIsStillOne() {
        ParkingTrees x = Kit.wishes(3, 0, 5, 1, 1);
        Kit.due("neither", x.gets(1, 0, 0, 0), 9);
        Kit.due("it wants less", x.gets(1, 0, 1, 0), 8);
        Kit.due("the other one does", x.gets(1, 0, 0, 1), 9);
        Kit.due("both", x.gets(1, 0, 1, 1), 8);
        Kit.due("REST", x.rests(0, 1), 1);
    }

    static void t12_restWhereBothGetAsMuch() {
        Kit.due("all", Kit.wishes(3, 1, 5, 3, 3, 2).rests(1, 2), 15);
        Kit.due("both want less", Kit.wishes(3, 0, 5, 3, 3, 2).rests(1, 2), 8);
        Kit.due("either", Kit.wishes(3, 0, 5, 2, 2, 2).rests(1, 2), 6);
        Kit.due("all but both", Kit.wishes(3, 2, 5, 2, 2, 2).rests(1, 2), 7);
        Kit.due("all but neither", Kit.wishes(5, 3, 5, 4, 4, 4, 4).rests(1, 3), 14);
    }

    static void t13_fractionsAndDraws() {
        ParkingTrees x = Kit.wishes(8, 0, 0, 1, 1, 1, 1, 1, 1, 1, 1);
        Kit.each("odds 0", car -> x.chance(car, 0), 0, 0, 0, 0, 0, 0, 0, 0, 0);
        Kit.each("odds 0", car -> x.chance(car, 1), 0, 1, 1, 1, 1, 1, 1, 1, 1);
        ParkingTrees y = Kit.wishes(8, 0, 10, 1, 1, 1, 1, 1, 1, 1, 1);
        Kit.each("odds 10", car -> y.chance(car, 0), 0, 1, 0, 0, 0, 0, 0, 0, 0);
        Kit.each("odds 10", car -> y.chance(car, 1), 0, 1, 1, 1, 1, 1, 1, 1, 1);
        Kit.due("odds 0: none comes", x.drawn(0, 0), 0);
        Kit.due("odds 10: all come", y.drawn(0, 0), 255);
        // draws from 1: 8 8 3 5 1 7 0 9
        int[] due = {0, 64, 80, 80, 84, 84, 92, 92, 124, 127, 255};
        for (int odds = 0; odds <= 10; odds++) {
            int come = 0;
            int[] draws = {8, 8, 3, 5, 1, 7, 0, 9};
            for (int car = 0; car < 8; car++) {
                come |= draws[car] < odds ? 1 << car : 0;
            }
            Kit.due("odds " + odds, Kit.wishes(8, 0, odds, 1, 1, 1, 1, 1, 1, 1, 1).drawn(1, 0), come);
            Kit.due("odds " + odds + ", by hand", come, due[odds]);
        }
    }

    // ---- promises 56 to 58

    static void p56_mend() {
        Kit.due("none LOST", Kit.wishes(2, 0, 5, 1, 1).mend(), -1);
        Kit.due("no CARS", none(0).mend(), -1);
        Kit.due("CAR 0, place 1", Kit.wishes(2, 0, 5, 2, 2).mend(), 1);
        Kit.due("fewer, though not none", BoundsRows.alike(3, 0, 3).mend(), 1);
        Kit.due("a late CAR alone", Kit.wishes(8, 0, 5, 2, 3, 4, 5, 6, 7, 8, 8).mend(), 61);
        Kit.due("by LAW 3 none is LOST", BoundsRows.alike(8, 3, 8).mend(), -1);
        ParkingTrees x = Kit.wishes(2, 0, 5, 2, 2);
        x.mend();
        Kit.due("nothing happens", x.car(0, 0), 2);
        Kit.due("no STREET", new ParkingTrees().mend(), -2);
    }

    static void p57_swap() {
        Kit.due("no CARS", none(0).swap(), -1);
        Kit.due("one CAR", Kit.wishes(8, 0, 5, 8).swap(), -1);
        Kit.due("no fewer STEPS", Kit.wishes(3, 0, 5, 1, 1).swap(), -1);
        Kit.due("the first of several", Kit.wishes(3, 2, 5, 2, 2, 3).swap(), 2);
        // each swap that makes fewer STEPS leaves one LOST
        Kit.due("more would be LOST", Kit.wishes(3, 1, 5, 3, 3, 2).swap(), -1);
        Kit.due("the best has one more LOST", Kit.wishes(5, 1, 5, 4, 4, 3, 2, 3).swap(), 4);
        Kit.due("as many LOST", Kit.wishes(3, 0, 5, 2, 2, 3).swap(), 2);
        Kit.due("fewer LOST, but more STEPS", Kit.wishes(5, 1, 5, 4, 5, 5).swap(), -1);
        Kit.due("no STREET", new ParkingTrees().swap(), -2);
    }

    static void p58_blame() {
        Kit.due("no CARS", none(0).blame(), -1);
        Kit.due("one CAR", Kit.wishes(8, 0, 5, 8).blame(), -1);
        Kit.due("no STEPS at all", Kit.wishes(3, 0, 5, 3, 2, 1).blame(), -1);
        Kit.due("the first of several", BoundsRows.alike(3, 0, 1).blame(), 0);
        Kit.due("fewest, not the first", Kit.wishes(3, 0, 5, 2, 1, 1).blame(), 1);
        // without CAR 3 one STEP is left, but that is what the others make now
        Kit.due("its own STEPS do not count", Kit.wishes(4, 1, 5, 1, 2, 2, 1).blame(), 1);
        Kit.due("none makes the others' fewer", Kit.wishes(4, 1, 5, 3, 4, 4, 3).blame(), -1);
        Kit.due("no STREET", new ParkingTrees().blame(), -2);
    }

    // ---- promises 59 to 62

    private static void sightAnswers(String call, ParkingTrees x, int slot, int car, int want) {
        Kit.due(call + " fits", x.fits(slot, car), want);
        Kit.due(call + " ask", x.ask(slot, car), want);
        Kit.due(call + " remain", x.remain(slot, car), want);
    }

    static void p59_fits() {
        ParkingTrees x = doubtful();
        Kit.bounded("CAR", car -> x.fits(1, car), -2, 0, 2);
        Kit.bounded("SLOT", slot -> x.fits(slot, 0), -2, 0, 3);
        Kit.due("the last CAR", x.fits(1, 2), 7);
        ParkingTrees y = BoundsRows.alike(8, 0, 1);
        Kit.row(y, 0, 3, 7, 8);
        Kit.due("the last place", y.fits(0, 7), 255);
        Kit.row(y, 0, 3, 7, 0);
        Kit.due("never LOST", y.fits(0, 7), 0);
    }

    static void p59_whatIsAsked() {
        ParkingTrees x = doubtful();
        sightAnswers("nothing,", x, 0, 0, -6);
        for (int bad : new int[] {Integer.MIN_VALUE, -1, 3, Integer.MAX_VALUE}) {
            sightAnswers("-2 ahead of -6, CAR " + bad, x, 0, bad, -2);
        }
        for (int bad : new int[] {Integer.MIN_VALUE, -1, 4, Integer.MAX_VALUE}) {
            sightAnswers("SLOT " + bad, x, bad, 0, -2);
            Kit.due("SLOT " + bad + " laws", x.laws(bad), -2);
        }
        ParkingTrees empty = new ParkingTrees();
        sightAnswers("no STREET, nothing,", empty, 0, 0, -2);
        Kit.due("no STREET, nothing, laws", empty.laws(0), -2);
        empty.row(0, 0, 0);
        sightAnswers("no STREET", empty, 0, 0, -2);
        Kit.due("no STREET laws", empty.laws(0), -2);
        ParkingTrees noCars = none(0);
        noCars.row(0, 0, 0);
        sightAnswers("no CARS", noCars, 0, 0, -2);
    }

    static void p59_numbersOfTheRow() {
        long[][] wrong = {{0}, {0, 1, 2}, {3, 0}, {-1, 0}, {0, 4}, {0, -1}, {0, 1, 3, 1}, {0, 1, 0, 4},
            {Long.MAX_VALUE, 0}, {Long.MIN_VALUE, 0}, {1L << 32, 1}, {0, 1L << 32}};
        for (long[] row : wrong) {
            ParkingTrees x = Kit.wishes(3, 0, 5, 2, 2, 3);
            Kit.row(x, 1, 3, row);
            sightAnswers(row.length + " numbers,", x, 1, 0, -2);
            Kit.due("laws", x.laws(1), -2);
        }
        for (long[] row : new long[][] {{0, 0}, {2, 3}, {0, 3}, {2, 0}}) {
            Kit.due("at the bounds", doubtful(row).fits(1, 0) >= 0 ? 1 : 0, 1);
            Kit.due("at the bounds, laws", doubtful(row).laws(1) >= 0 ? 1 : 0, 1);
        }
        ParkingTrees y = Kit.wishes(3, 0, 5, 2);
        Kit.row(y, 1, 3, 1, 1);
        Kit.due("a CAR that is not told", y.fits(1, 0), -2);
        ParkingTrees z = Kit.wishes(3, 0, 5, 1, 1, 1);
        z.row(1, 0, 60);
        Kit.due("thirty times CAR 0 is LOST", z.fits(1, 0), 0);
        z.row(1, 0, 59);
        Kit.due("59 numbers", z.fits(1, 0), -2);
    }

    static void p60_ask() {
        Kit.due("itself splits all", doubtful().ask(1, 0), 0);
        Kit.due("one is left already", doubtful(1, 2, 2, 0).ask(1, 0), -1);
        Kit.due("none is left", doubtful(1, 2, 1, 3).ask(1, 0), -1);
        Kit.due("the last alone", doubtful().ask(1, 2), 2);
        Kit.due("no CAR splits what is left", doubtful(2, 0).ask(1, 2), -1);
        // where CAR 1 is, and where CAR 2 is, tells a wish of 1 from the two others; CAR 0 is on 2 all the time
        Kit.due("the first of several", doubtful().ask(1, 1), 1);
        ParkingTrees x = doubtful();
        Kit.bounded("CAR", car -> x.ask(1, car), -2, 0, 2);
        Kit.bounded("SLOT", slot -> x.ask(slot, 0), -2, 0, 3);
    }

    static void p61_remain() {
        Kit.due("itself splits all", doubtful().remain(1, 0), 1);
        Kit.due("one is left already", doubtful(1, 2, 2, 0).remain(1, 0), 1);
        Kit.due("none is left", doubtful(1, 2, 1, 3).remain(1, 0), 0);
        Kit.due("LOST by two", doubtful().remain(1, 2), 2);
        Kit.due("as now without", doubtful(2, 0).remain(1, 2), 2);
        ParkingTrees x = doubtful();
        Kit.bounded("CAR", car -> x.remain(1, car), -2, 0, 2);
        Kit.bounded("SLOT", slot -> x.remain(slot, 0), -2, 0, 3);
    }

    static void p62_laws() {
        Kit.due("nothing SEEN", doubtful().laws(1), 15);
        Kit.due("LOST", doubtful(2, 0).laws(1), 1);
        Kit.due("by none", doubtful(0, 1).laws(1), 0);
        Kit.due("one CAR on two places", doubtful(0, 2, 0, 1).laws(1), 0);
        Kit.due("LAW 3, too", doubtful(2, 1).laws(1), 12);
        ParkingTrees x = none(2);
        x.row(0, 0, 0);
        Kit.due("no CARS", x.laws(0), 15);
        Kit.due("nothing", x.laws(1), -6);
        Kit.bounded("SLOT", x::laws, -2, 0, 3);
        x.row(0, 0, 2);
        Kit.due("no CARS, one SEEN", x.laws(0), -2);
    }

    // ---- promises 63 and 64

    static void p63_by() {
        ParkingTrees x = BoundsRows.alike(8, 0, 8);
        Kit.each("by", x::by, -1, -2, 0, 1, 28, 28, -2);
        Kit.bounded("LAW", x::by, -2, 0, 3);
        Kit.due("the one told stays", x.sum(), 0);
        Kit.due("the one told stays", x.count(1), 0);
        Kit.each("no CARS", none(3)::by, -1, -2, 0, 0, 0, 0, -2);
        Kit.due("no STREET", new ParkingTrees().by(0), -2);
    }

    static void p64_law() {
        Kit.due("the least of several", BoundsRows.alike(8, 3, 1).law(), 0);
        Kit.due("the least of several", Kit.wishes(2, 3, 5, 2, 2).law(), 1);
        Kit.due("the least of several", Kit.wishes(3, 3, 5, 2, 3, 3).law(), 2);
        Kit.due("fewest LOST, of these fewest STEPS", Kit.wishes(5, 0, 5, 3, 3, 3, 2, 2).law(), 3);
        Kit.due("no CARS", none(3).law(), 0);
        Kit.due("no STREET", new ParkingTrees().law(), -2);
    }

    // ---- promises 65 to 70

    static void p65_worth() {
        ParkingTrees x = BoundsRows.alike(8, 0, 1);
        Kit.bounded("set", x::worth, -2, 0, 255);
        Kit.due("none", x.worth(0), 0);
        Kit.due("all", x.worth(255), 28);
        Kit.due("the first and the last", x.worth(129), 1);
        Kit.due("the last alone", x.worth(128), 0);
        Kit.bounded("set of one", Kit.wishes(8, 0, 5, 8)::worth, -2, 0, 1);
        Kit.bounded("set of no CARS", none(0)::worth, -2, 0, 0);
        Kit.due("no STREET", new ParkingTrees().worth(0), -2);
    }

    static void p66_share() {
        ParkingTrees x = Kit.wishes(3, 0, 5, 3, 2, 2);
        Kit.bounded("CAR", car -> x.share(car, 0), -1000000, 0, 2);
        Kit.bounded("what", what -> x.share(0, what), -1000000, 0, 1);
        ParkingTrees y = Kit.wishes(8, 0, 5, 8);
        Kit.due("0 / 1", y.share(0, 0), 0);
        Kit.due("0 / 1", y.share(0, 1), 1);
        Kit.due("no CARS", none(0).share(0, 0), -1000000);
        Kit.due("no STREET", new ParkingTrees().share(0, 1), -1000000);
    }

    static void p67_rests() {
        ParkingTrees x = Kit.wishes(3, 0, 5, 3, 3, 2);
        Kit.bounded("the first", car -> x.rests(car, 1), -2, 2, 2);
        Kit.bounded("the other one", car -> x.rests(1, car), -2, 2, 2);
        Kit.each("one twice", car -> x.rests(car, car), -1, -2, -2, -2, -2, -2);
        Kit.due("the first wants less", Kit.wishes(2, 0, 5, 2, 2).rests(1, 0), 2);
        Kit.due("the other one wants less", Kit.wishes(2, 0, 5, 2, 2).rests(0, 1), 4);
        Kit.due("nothing happens", x.count(5), 0);
        Kit.due("no STREET", new ParkingTrees().rests(0, 1), -2);
    }

    static void p68_gets() {
        ParkingTrees x = Kit.wishes(3, 0, 5, 2, 3, 3);
        Kit.due("LOST", x.gets(2, 0, 0, 0), 0);
        Kit.due("LOST, and less", x.gets(2, 0, 1, 0), -1);
        Kit.due("the most", x.gets(0, 1, 0, 0), 10);
        Kit.due("STEPS of 7", BoundsRows.alike(8, 3, 8).gets(1, 0, 0, 0), 3);
        Kit.bounded("the first", car -> x.gets(car, 1, 0, 0), -1000, 2, 2);
        Kit.bounded("the other one", car -> x.gets(1, car, 0, 0), -1000, 2, 2);
        Kit.bounded("less", less -> x.gets(0, 1, less, 0), -1000, 0, 1);
        Kit.bounded("otherLess", less -> x.gets(0, 1, 0, less), -1000, 0, 1);
        Kit.each("one twice", car -> x.gets(car, car, 0, 0), -1, -1000, -1000, -1000, -1000, -1000);
        Kit.due("no STREET", new ParkingTrees().gets(0, 1, 0, 0), -1000);
    }

    static void p69_chance() {
        ParkingTrees x = BoundsRows.alike(8, 0, 1);
        Kit.each("above", car -> x.chance(car, 0), -1, -2, 1, 1, 1, 1, 1, 1, 1, 1, -2);
        Kit.each("below", car -> x.chance(car, 1), -1, -2, 2, 4, 8, 16, 32, 64, 128, 256, -2);
        Kit.bounded("CAR", car -> x.chance(car, 0), -2, 0, 7);
        Kit.bounded("what", what -> x.chance(0, what), -2, 0, 1);
        Kit.due("no CARS", none(0).chance(0, 0), -2);
        Kit.due("no STREET", new ParkingTrees().chance(0, 0), -2);
        ParkingTrees y = Kit.wishes(8, 0, 9, 1, 1, 1, 1, 1, 1, 1, 1);
        Kit.due("the greatest below", y.chance(7, 1), 100000000);
    }

    static void p70_mean() {
        ParkingTrees x = BoundsRows.alike(8, 0, 1);
        // each two of eight: both come one time of four
        Kit.due("above", x.mean(0), 7);
        Kit.due("below", x.mean(1), 1);
        Kit.bounded("what", what -> (int) x.mean(what), -2, 0, 1);
        Kit.due("no CARS", none(0).mean(0), 0);
        Kit.due("no CARS", none(0).mean(1), 1);
        Kit.due("odds 0", Kit.wishes(2, 0, 0, 1, 1).mean(0), 0);
        Kit.due("odds 0", Kit.wishes(2, 0, 0, 1, 1).mean(1), 1);
        Kit.due("odds 10", Kit.wishes(2, 0, 10, 1, 1).mean(0), 1);
        Kit.due("odds 10", Kit.wishes(2, 0, 10, 1, 1).mean(1), 1);
        Kit.due("no STREET", new ParkingTrees().mean(0), -2);
        Kit.due("no STREET", new ParkingTrees().mean(2), -2);
    }
}
