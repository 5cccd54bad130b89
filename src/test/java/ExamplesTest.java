/** Promises 6 to 34, 43 to 58, 63 to 70, 75 and 76: streets worked out by hand, and edges. */
public final class ExamplesTest {
    public static void main(String[] args) {
        noStreet(new ParkingTrees());
        noStreet(emptied());
        lawfulStreet();
        lostStreet();
        laws();
        onePlace();
        ring();
        trees();
        search();
        blocks();
        fences();
        advice();
        shares();
        games();
        chances();
        mornings();
        Kit.finish();
    }

    private static void each(String call, int[] got, int... want) {
        Kit.due(call + " length", got.length, want.length);
        for (int i = 0; i < Math.min(got.length, want.length); i++) {
            Kit.due(call + " " + i, got[i], want[i]);
        }
    }

    private static ParkingTrees emptied() {
        ParkingTrees x = Kit.told("street places 3 law 1 odds 5;car wants 1 stands 5;join 1 2;");
        x.wants(0, 2);
        x.street();
        return x;
    }

    private static void noStreet(ParkingTrees x) {
        int[] got = {x.car(0, 0), x.place(0), x.steps(0), x.lost(), x.free(), x.holder(1), x.lucky(), x.sum(),
            x.worst(), x.runs(), x.sorted(0), x.lawful(), x.prime(), x.breaks(), x.likes(), x.ring(0), x.hole(),
            x.shifts(), x.shifted(0, 0), x.parent(0), x.depth(0), x.kids(0), x.queue(0), x.leaves(), x.inversions(),
            x.code(0), x.burnt(0), x.turned(), x.visit(0), x.above(0, 0), x.wish(0, 0), x.regain(0, 0), x.upset(0),
            x.rows(1), x.moved(1, 0), x.trees(1, 0), x.ends(1, 1), x.label(0), x.merged(0), x.blocks(), x.block(1),
            x.next(), x.may(1, 2), x.labels(1, 2), x.chain(), x.region(0), x.across(0, 1), x.fences(), x.far(),
            x.astride(), x.mend(), x.swap(), x.blame(), x.fits(0, 0), x.ask(0, 0), x.remain(0, 0), x.laws(0), x.by(0),
            x.law(), x.worth(0), x.rests(0, 1), x.chance(0, 0), (int) x.mean(0), x.wants(0, 1), x.trades(0, 1),
            x.undo(), x.anew(), x.drawn(0, 0), x.luck(0, 1, 0), x.rate(0, 0)};
        for (int i = 0; i < got.length; i++) {
            Kit.due("no STREET, call " + i, got[i], -2);
        }
        Kit.due("no STREET, share", x.share(0, 0), -1000000);
        Kit.due("no STREET, gets", x.gets(0, 1, 0, 0), -1000);
    }

    private static void lawfulStreet() {
        ParkingTrees x = Kit.wishes(4, 0, 5, 1, 3, 1, 2);
        each("place", new int[] {x.place(0), x.place(1), x.place(2), x.place(3)}, 1, 3, 2, 4);
        each("steps", new int[] {x.steps(0), x.steps(1), x.steps(2), x.steps(3)}, 0, 0, 1, 2);
        each("holder", new int[] {x.holder(1), x.holder(2), x.holder(3), x.holder(4)}, 0, 2, 1, 3);
        each("sorted", new int[] {x.sorted(0), x.sorted(1), x.sorted(2), x.sorted(3), x.sorted(4)}, 1, 1, 2, 3, -1);
        Kit.due("lost", x.lost(), 0);
        Kit.due("free", x.free(), 0);
        Kit.due("lucky", x.lucky(), Kit.bits(0, 1));
        Kit.due("sum", x.sum(), 3);
        Kit.due("worst", x.worst(), 3);
        Kit.due("runs", x.runs(), 1);
        Kit.due("lawful", x.lawful(), 1);
        Kit.due("prime", x.prime(), 1);
        Kit.due("breaks", x.breaks(), 1);
        Kit.due("likes", x.likes(), 8);
        Kit.due("sorted(-1)", x.sorted(-1), -2);
        Kit.due("sorted(MAX)", x.sorted(Integer.MAX_VALUE), -1);
        Kit.due("car(0, 2)", x.car(0, 2), -2);
        Kit.due("car(0, -1)", x.car(0, -1), -2);
        x.wants(2, 4);
        Kit.due("prime, not", x.prime(), 0);
        Kit.due("breaks", x.breaks(), 4);
        Kit.due("lawful", x.lawful(), 1);
    }

    private static void lostStreet() {
        ParkingTrees x = Kit.wishes(4, 0, 5, 4, 4, 2);
        each("place", new int[] {x.place(0), x.place(1), x.place(2)}, 4, -1, 2);
        Kit.due("steps(1)", x.steps(1), -1);
        Kit.due("lost", x.lost(), Kit.bits(1));
        Kit.due("free", x.free(), Kit.bits(0, 2));
        Kit.due("holder(1)", x.holder(1), -1);
        Kit.due("holder(0)", x.holder(0), -2);
        Kit.due("holder(5)", x.holder(5), -2);
        Kit.due("lucky", x.lucky(), Kit.bits(0, 2));
        Kit.due("sum", x.sum(), 0);
        Kit.due("worst of none moved", x.worst(), 0);
        Kit.due("runs", x.runs(), 2);
        Kit.due("lawful", x.lawful(), 0);
        Kit.due("prime", x.prime(), 0);
        Kit.due("breaks", x.breaks(), -1);
        Kit.due("likes", x.likes(), 1);
        for (int bad : new int[] {-1, 3, Integer.MIN_VALUE, Integer.MAX_VALUE}) {
            Kit.due("car", x.car(bad, 0), -2);
            Kit.due("place", x.place(bad), -2);
            Kit.due("steps", x.steps(bad), -2);
            Kit.due("ring", x.ring(bad), -2);
            Kit.due("shifted", x.shifted(bad, 0), -2);
            Kit.due("parent", x.parent(bad), -2);
            Kit.due("depth", x.depth(bad), -2);
            Kit.due("burnt", x.burnt(bad), -2);
            Kit.due("region", x.region(bad), -2);
            Kit.due("share", x.share(bad, 0), -1000000);
            Kit.due("chance", x.chance(bad, 0), -2);
            Kit.due("luck", x.luck(1, 1, bad), -2);
        }
    }

    private static void laws() {
        int[] wishes = {3, 3, 3, 1, 3};
        int[][] due = {{3, 4, 5, 1, -1}, {3, 2, 4, 1, 5}, {3, 4, 2, 1, 5}, {3, 4, 5, 1, 2}};
        for (int law = 0; law < 4; law++) {
            ParkingTrees x = Kit.wishes(5, law, 5, wishes);
            for (int car = 0; car < 5; car++) {
                Kit.due("law " + law + " place(" + car + ")", x.place(car), due[law][car]);
            }
            Kit.due("by(0)", x.by(0), 3);
            Kit.due("by(1)", x.by(1), 4);
            Kit.due("by(2)", x.by(2), 4);
            Kit.due("by(3)", x.by(3), 4);
            Kit.due("law()", x.law(), 1);
            Kit.due("by(4)", x.by(4), -2);
            Kit.due("by(-1)", x.by(-1), -2);
        }
        ParkingTrees x = Kit.wishes(2, 1, 5, 1, 1);
        Kit.due("LAW 1, none below 1", x.place(1), 2);
        Kit.due("LAW 2, one below alone", Kit.wishes(2, 2, 5, 2, 2).place(1), 1);
        Kit.due("law() of no CARS", Kit.wishes(2, 3, 5).law(), 0);
    }

    private static void onePlace() {
        ParkingTrees x = Kit.wishes(1, 0, 10, 1);
        Kit.due("lawful", x.lawful(), 1);
        Kit.due("prime", x.prime(), 1);
        Kit.due("breaks", x.breaks(), 1);
        Kit.due("hole", x.hole(), 2);
        Kit.due("shifts", x.shifts(), 1);
        Kit.due("parent", x.parent(0), 0);
        Kit.due("code(0)", x.code(0), -1);
        Kit.due("queue(1)", x.queue(1), 1);
        Kit.due("queue(2)", x.queue(2), -2);
        Kit.due("visit(1)", x.visit(1), 1);
        Kit.due("leaves", x.leaves(), 1);
        Kit.due("share above", x.share(0, 0), 0);
        Kit.due("share below", x.share(0, 1), 1);
        Kit.due("chance above", x.chance(0, 0), 1);
        Kit.due("chance below", x.chance(0, 1), 1);
    }

    private static void ring() {
        ParkingTrees x = Kit.wishes(4, 1, 5, 4, 4, 2);
        each("ring", new int[] {x.ring(0), x.ring(1), x.ring(2)}, 4, 5, 2);
        Kit.due("hole", x.hole(), 1);
        Kit.due("shifts", x.shifts(), Kit.bits(2, 4));
        each("shifted", new int[] {x.shifted(0, 0), x.shifted(0, 1), x.shifted(0, 2), x.shifted(0, 4)}, 4, 5, 1, 3);
        Kit.due("shifted(0, 5)", x.shifted(0, 5), -2);
        Kit.due("shifted(0, -1)", x.shifted(0, -1), -2);
        Kit.due("shifted(0, MAX)", x.shifted(0, Integer.MAX_VALUE), -2);
        Kit.due("around", Kit.wishes(2, 0, 0, 2, 2).ring(1), 3);
        ParkingTrees y = Kit.wishes(3, 0, 0, 3, 3, 3);
        each("ring", new int[] {y.ring(0), y.ring(1), y.ring(2)}, 3, 4, 1);
        Kit.due("hole", y.hole(), 2);
        Kit.due("shifts", y.shifts(), Kit.bits(2));
    }

    private static void trees() {
        ParkingTrees x = Kit.wishes(4, 2, 5, 1, 3, 1, 2);
        each("parent", new int[] {x.parent(0), x.parent(1), x.parent(2), x.parent(3)}, 0, 3, 0, 1);
        each("depth", new int[] {x.depth(0), x.depth(1), x.depth(2), x.depth(3)}, 1, 2, 1, 2);
        each("kids", new int[] {x.kids(0), x.kids(1), x.kids(2), x.kids(3), x.kids(4)}, 5, 8, 0, 2, 0);
        each("queue", new int[] {x.queue(0), x.queue(1), x.queue(2), x.queue(3), x.queue(4)}, 0, 1, 3, 4, 2);
        each("code", new int[] {x.code(0), x.code(1), x.code(2), x.code(3)}, 3, 0, 1, -1);
        Kit.due("leaves", x.leaves(), Kit.bits(1, 3));
        Kit.due("inversions", x.inversions(), 1);
        Kit.due("code(-1)", x.code(-1), -2);
        Kit.due("code(MAX)", x.code(Integer.MAX_VALUE), -1);
        for (int bad : new int[] {-1, 5, Integer.MIN_VALUE, Integer.MAX_VALUE}) {
            Kit.due("kids", x.kids(bad), -2);
            Kit.due("queue", x.queue(bad), -2);
            Kit.due("visit", x.visit(bad), -2);
        }
        ParkingTrees y = Kit.wishes(3, 0, 5, 3, 3, 1);
        each("not LAWFUL", new int[] {y.parent(0), y.depth(0), y.kids(0), y.queue(3), y.leaves(), y.inversions(),
            y.code(0), y.code(7), y.burnt(0), y.turned(), y.visit(0)}, -1, -1, -1, -1, -1, -1, -1, -1, -1, -1, -1);
        each("-2 ahead of NONE", new int[] {y.parent(3), y.kids(4), y.queue(4), y.code(-1), y.visit(4)},
            -2, -2, -2, -2, -2);
    }

    private static void search() {
        ParkingTrees x = Kit.wishes(4, 3, 5, 1, 3, 1, 2);
        each("burnt", new int[] {x.burnt(0), x.burnt(1), x.burnt(2), x.burnt(3)}, 4, 3, 0, 3);
        each("visit", new int[] {x.visit(0), x.visit(1), x.visit(2), x.visit(3), x.visit(4)}, 0, 3, 4, 1, 2);
        Kit.due("turned", x.turned(), 3);
    }

    private static void blocks() {
        ParkingTrees x = Kit.told("street places 5 law 0 odds 0;join 2 6;join 5 3;join 3 2;");
        each("label", new int[] {x.label(0), x.label(1), x.label(2), x.label(3), x.label(-1)}, 2, 3, 2, -2, -2);
        each("merged", new int[] {x.merged(0), x.merged(1), x.merged(2), x.merged(3), x.merged(-1)}, 34, 20, 54, -2, -2);
        Kit.due("blocks", x.blocks(), 3);
        each("block", new int[] {x.block(1), x.block(4), x.block(6), x.block(0), x.block(7)}, 1, 8, 54, -2, -2);
        Kit.due("next", x.next(), 2);
        each("may", new int[] {x.may(1, 4), x.may(1, 6), x.may(3, 4), x.may(3, 5), x.may(2, 2)}, 0, 1, 1, 0, 0);
        each("may", new int[] {x.may(0, 1), x.may(1, 0), x.may(7, 1), x.may(1, 7)}, -2, -2, -2, -2);
        each("labels", new int[] {x.labels(1, 4), x.labels(6, 1), x.labels(4, 6), x.labels(3, 5), x.labels(1, 1)},
            -1, 1, 3, -1, -1);
        each("labels", new int[] {x.labels(0, 1), x.labels(1, 7)}, -2, -2);
        Kit.due("chain", x.chain(), 0);
        ParkingTrees y = Kit.told("street places 2 law 0 odds 0;join 3 2;join 1 3;");
        each("label", new int[] {y.label(0), y.label(1)}, 2, 1);
        Kit.due("chain", y.chain(), 1);
        Kit.due("next", y.next(), 0);
        Kit.due("blocks", y.blocks(), 1);
    }

    private static void fences() {
        ParkingTrees x = Kit.told("street places 4 law 0 odds 0;car wants 1 stands 21;car wants 1 stands 10;"
            + "car wants 1 stands 11;car wants 1 stands 21;");
        each("region", new int[] {x.region(0), x.region(1), x.region(2), x.region(3)}, 1, 4, 2, 1);
        each("across", new int[] {x.across(0, 1), x.across(1, 0), x.across(0, 2), x.across(0, 3), x.across(2, 3)},
            1, 1, 0, 0, 1);
        each("across", new int[] {x.across(0, 0), x.across(0, 4), x.across(-1, 0)}, -2, -2, -2);
        Kit.due("fences", x.fences(), 4);
        Kit.due("far", x.far(), 0);
        Kit.due("astride", x.astride(), 2);
        ParkingTrees y = Kit.told("street places 2 law 0 odds 0;car wants 1 stands 0;car wants 1 stands 10;");
        Kit.due("the other way 10 is no FENCE", y.astride(), 0);
        Kit.due("far", y.far(), 1);
    }

    private static void advice() {
        ParkingTrees x = Kit.wishes(3, 0, 5, 2, 3, 3);
        // CAR 0 elsewhere still leaves one LOST, CAR 1 on 1 leaves 3 to CAR 2
        Kit.due("mend", x.mend(), 11);
        Kit.due("mend, all at the best", Kit.wishes(3, 3, 5, 2, 3, 3).mend(), -1);
        ParkingTrees y = Kit.wishes(4, 0, 5, 1, 1, 2, 2);
        Kit.due("swap without gain", y.swap(), -1);
        Kit.due("blame", y.blame(), 0);
        Kit.due("blame of one that is alone", Kit.wishes(2, 0, 5, 2).blame(), -1);
        Kit.due("swap", Kit.wishes(4, 1, 0, 3, 3, 3, 4).swap(), 3);
        // the last two have one STEP each, if 2 comes ahead of 4
        Kit.due("swap of neighbours", Kit.wishes(5, 1, 0, 2, 4, 1, 4, 2).swap(), 34);
    }

    private static void shares() {
        // WORTH: 1 of any two, 3 of all three
        ParkingTrees x = Kit.wishes(3, 0, 5, 1, 1, 1);
        each("worth", new int[] {x.worth(0), x.worth(1), x.worth(3), x.worth(5), x.worth(7)}, 0, 0, 1, 1, 3);
        each("worth", new int[] {x.worth(8), x.worth(-1), x.worth(Integer.MIN_VALUE)}, -2, -2, -2);
        each("share", new int[] {x.share(0, 0), x.share(0, 1), x.share(2, 0), x.share(2, 1)}, 1, 1, 1, 1);
        each("share", new int[] {x.share(0, 2), x.share(0, -1), x.share(3, 0)}, -1000000, -1000000, -1000000);
        // WORTH: 1 of 0 and 2, of 1 and 2 none, 2 of all
        ParkingTrees y = Kit.wishes(3, 0, 5, 1, 2, 1);
        each("share", new int[] {y.share(0, 0), y.share(0, 1), y.share(1, 0), y.share(1, 1)}, 5, 6, 1, 3);
        // the second of two is LOST, and makes no STEPS
        ParkingTrees z = Kit.wishes(2, 0, 5, 2, 2);
        each("share of one LOST", new int[] {z.share(0, 0), z.share(0, 1)}, 0, 1);
        // CARS 1 and 2 alone make one STEP, but where CAR 0 has place 3, CAR 2 is LOST
        ParkingTrees v = Kit.wishes(3, 0, 5, 3, 2, 2);
        each("share below 0", new int[] {v.share(0, 0), v.share(0, 1), v.share(1, 0), v.share(1, 1)}, -1, 3, 1, 6);
    }

    private static void games() {
        ParkingTrees x = Kit.wishes(2, 0, 5, 2, 2);
        each("gets", new int[] {x.gets(0, 1, 0, 0), x.gets(1, 0, 0, 0), x.gets(1, 0, 1, 0), x.gets(1, 0, 1, 1)},
            10, 0, 9, 8);
        each("gets", new int[] {x.gets(0, 1, 1, 0), x.gets(0, 1, 1, 1), x.gets(0, 1, 0, 1)}, 9, 9, 10);
        Kit.due("rests", x.rests(0, 1), 4);
        Kit.due("rests", x.rests(1, 0), 2);
        ParkingTrees y = Kit.wishes(1, 0, 5, 1);
        Kit.due("one alone", y.rests(0, 0), -2);
        ParkingTrees z = Kit.wishes(3, 0, 5, 3, 3, 1);
        Kit.due("LOST for all that", Kit.wishes(3, 0, 5, 2, 3, 3).gets(2, 0, 1, 0), -1);
        Kit.due("1 is still 1", z.gets(2, 0, 1, 0), 9);
        each("gets", new int[] {x.gets(0, 0, 0, 0), x.gets(0, 2, 0, 0), x.gets(-1, 0, 0, 0), x.gets(0, 1, 2, 0),
            x.gets(0, 1, 0, 2), x.gets(0, 1, -1, 0)}, -1000, -1000, -1000, -1000, -1000, -1000);
        each("rests", new int[] {x.rests(0, 0), x.rests(0, 2), x.rests(-1, 0)}, -2, -2, -2);
    }

    private static void chances() {
        // the second finds its place, if the first stays away: 3/10 times 7/10
        ParkingTrees x = Kit.wishes(2, 0, 3, 1, 1);
        each("chance", new int[] {x.chance(0, 0), x.chance(0, 1), x.chance(1, 0), x.chance(1, 1)}, 3, 10, 21, 100);
        Kit.due("mean(0)", x.mean(0), 9);
        Kit.due("mean(1)", x.mean(1), 100);
        each("wrong", new int[] {x.chance(0, 2), x.chance(0, -1)}, -2, -2);
        Kit.due("mean(2)", x.mean(2), -2);
        Kit.due("mean(-1)", x.mean(-1), -2);
        ParkingTrees y = Kit.wishes(8, 0, 9, 1, 1, 1, 1, 1, 1, 1, 1);
        Kit.due("chance", y.chance(7, 0), 9);
        Kit.due("chance", y.chance(7, 1), 100000000);
        // of so many that come each two make one STEP: 28 pairs, 81/100
        Kit.due("mean(0)", y.mean(0), 567);
        Kit.due("mean(1)", y.mean(1), 25);
        ParkingTrees z = Kit.wishes(2, 0, 0, 1, 1);
        each("odds 0", new int[] {z.chance(0, 0), z.chance(0, 1)}, 0, 1);
        Kit.due("mean(1)", z.mean(1), 1);
    }

    private static void mornings() {
        // from seed 1: x is 1103527590, then 377401575, which over 65536 are 16838 and 5758: draws 8 and 8
        ParkingTrees x = Kit.wishes(2, 0, 9, 1, 1);
        Kit.due("drawn(1, 0)", x.drawn(1, 0), 3);
        Kit.due("drawn(1, 1)", x.drawn(1, 1), 1);
        Kit.due("drawn(1, 0), odds 8", Kit.wishes(2, 0, 8, 1, 1).drawn(1, 0), 0);
        ParkingTrees y = Kit.wishes(1, 0, 10, 1);
        Kit.due("luck, all", y.luck(2000000000, 20, 0), 20);
        each("drawn", new int[] {y.drawn(2000000000, 0), y.drawn(0, 0), y.drawn(2000000001, 0), y.drawn(-1, 0),
            y.drawn(0, 2), y.drawn(0, -1)}, 1, 1, -2, -2, -2, -2);
        each("luck", new int[] {y.luck(-1, 1, 0), y.luck(2000000001, 1, 0), y.luck(0, 0, 0), y.luck(0, 21, 0),
            y.luck(0, 1, 1)}, -2, -2, -2, -2, -2);
        Kit.due("LOST is no luck", Kit.wishes(2, 0, 10, 2, 2).luck(5, 7, 1), 0);
    }
}
