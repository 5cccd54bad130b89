/** Promises 71 to 74 and 77 to 80: acts, undo, anew, rate, count, image, back. */
public final class ActsTest {
    public static void main(String[] args) {
        acts();
        twenty();
        rates();
        images();
        emptyImages();
        Kit.finish();
    }

    private static void acts() {
        ParkingTrees x = Kit.wishes(3, 0, 5, 3, 3, 1);
        Kit.due("lost()", x.lost(), Kit.bits(1));
        Kit.due("undo() of none", x.undo(), -5);
        Kit.due("anew() of none", x.anew(), 0);
        Kit.due("wants(0, 2)", x.wants(0, 2), 0);
        Kit.due("car(0, 0)", x.car(0, 0), 2);
        Kit.due("count(5)", x.count(5), 1);
        Kit.due("the same wish is an act", x.wants(0, 2), 0);
        Kit.due("count(5)", x.count(5), 2);
        Kit.due("trades(0, 2)", x.trades(0, 2), 0);
        Kit.due("car(0, 0)", x.car(0, 0), 1);
        Kit.due("car(2, 0)", x.car(2, 0), 2);
        Kit.due("wants(2, 3)", x.wants(2, 3), 1);
        Kit.due("place(2)", x.place(2), -1);
        Kit.due("undo()", x.undo(), 3);
        Kit.due("car(2, 0)", x.car(2, 0), 2);
        Kit.due("undo()", x.undo(), 2);
        Kit.due("car(0, 0)", x.car(0, 0), 2);
        Kit.due("car(2, 0)", x.car(2, 0), 1);
        Kit.due("trades(1, 0)", x.trades(1, 0), 0);
        Kit.due("anew()", x.anew(), 3);
        Kit.due("car(0, 0)", x.car(0, 0), 3);
        Kit.due("car(1, 0)", x.car(1, 0), 3);
        Kit.due("car(2, 0)", x.car(2, 0), 1);
        Kit.due("count(5)", x.count(5), 0);
        Kit.due("count(6)", x.count(6), 4);
        for (int bad : new int[] {-1, 3, Integer.MIN_VALUE, Integer.MAX_VALUE}) {
            Kit.due("wants(bad, 1)", x.wants(bad, 1), -2);
            Kit.due("trades(bad, 1)", x.trades(bad, 1), -2);
            Kit.due("trades(1, bad)", x.trades(1, bad), -2);
        }
        Kit.due("wants(0, 0)", x.wants(0, 0), -2);
        Kit.due("wants(0, 4)", x.wants(0, 4), -2);
        Kit.due("wants(0, 3)", x.wants(0, 3), 1);
        Kit.due("trades(1, 1)", x.trades(1, 1), -2);
        Kit.due("count(5)", x.count(5), 1);
    }

    private static void twenty() {
        ParkingTrees x = Kit.wishes(2, 3, 5, 2, 2);
        for (int i = 1; i <= 20; i++) {
            Kit.due("act " + i, i % 2 == 0 ? x.wants(1, 1) : x.trades(0, 1), 0);
        }
        Kit.due("wants() behind 20", x.wants(0, 1), -5);
        Kit.due("trades() behind 20", x.trades(0, 1), -5);
        Kit.due("-2 ahead of -5", x.wants(0, 3), -2);
        Kit.due("-2 ahead of -5", x.trades(0, 0), -2);
        Kit.due("count(5)", x.count(5), 20);
        Kit.due("undo()", x.undo(), 19);
        Kit.due("wants()", x.wants(0, 1), 0);
        Kit.due("wants()", x.wants(0, 1), -5);
        Kit.due("anew()", x.anew(), 20);
        Kit.due("car(0, 0)", x.car(0, 0), 2);
        Kit.due("undo()", x.undo(), -5);
    }

    private static void rates() {
        ParkingTrees x = Kit.told("street places 2 law 0 odds 5;car wants 1 stands 7;car wants 2 stands 7;");
        Kit.due("astride()", x.astride(), 1);
        Kit.due("rate(0, 99)", x.rate(0, 99), 7);
        Kit.due("car(0, 1)", x.car(0, 1), 99);
        Kit.due("region(1)", x.region(1), 2);
        Kit.due("rate(0, 0)", x.rate(0, 0), 99);
        Kit.due("region(0)", x.region(0), 2);
        Kit.due("rate(0, 100)", x.rate(0, 100), -2);
        Kit.due("rate(0, -1)", x.rate(0, -1), -2);
        Kit.due("rate(2, 1)", x.rate(2, 1), -2);
        Kit.due("rate(-1, 1)", x.rate(-1, 1), -2);
        Kit.due("count(5)", x.count(5), 0);
        x.wants(0, 2);
        Kit.due("rate() behind acts", x.rate(0, 5), -5);
        Kit.due("-2 ahead of -5", x.rate(2, 5), -2);
        Kit.due("car(0, 1)", x.car(0, 1), 0);
        x.undo();
        Kit.due("rate() behind none", x.rate(0, 5), 0);
    }

    private static void images() {
        ParkingTrees x = Kit.told("street places 3 law 2 odds 4;car wants 3 stands 9;car wants 3 stands 8;join 1 3;");
        x.wants(0, 1);
        x.trades(0, 1);
        Kit.due("image(1)", x.image(1), 0);
        x.undo();
        x.anew();
        x.rate(0, 50);
        Kit.row(x, 2, 1, 5, 6);
        Kit.due("image(0)", x.image(0), 0);
        Kit.due("another", Kit.tell(x, "street places 1 law 1 odds 1;"), 1);
        Kit.due("back(1)", x.back(1), 0);
        int[] counts = {3, 2, 4, 2, 1, 2, 4, 0, 1};
        for (int what = 0; what < counts.length; what++) {
            Kit.due("count(" + what + ")", x.count(what), counts[what]);
        }
        Kit.due("car(0, 0)", x.car(0, 0), 3);
        Kit.due("car(1, 0)", x.car(1, 0), 1);
        Kit.due("car(0, 1)", x.car(0, 1), 9);
        Kit.due("merged(0)", x.merged(0), 5);
        Kit.due("undo()", x.undo(), 1);
        Kit.due("car(0, 0)", x.car(0, 0), 1);
        Kit.due("an IMAGE stays as it is", x.back(1), 0);
        Kit.due("count(5)", x.count(5), 2);
        Kit.due("back(0)", x.back(0), 0);
        Kit.due("count(5)", x.count(5), 0);
        Kit.due("car(0, 1)", x.car(0, 1), 50);
        Kit.due("back(2)", x.back(2), -6);
        for (int bad : new int[] {-1, 3, Integer.MIN_VALUE, Integer.MAX_VALUE}) {
            Kit.due("image(bad)", x.image(bad), -2);
            Kit.due("back(bad)", x.back(bad), -2);
        }
        Kit.due("count(9)", x.count(9), -1);
        Kit.due("count(-1)", x.count(-1), -1);
    }

    private static void emptyImages() {
        ParkingTrees x = new ParkingTrees();
        Kit.due("image(2) of no STREET", x.image(2), 0);
        Kit.tell(x, Kit.text(2, 0, 0, 1));
        Kit.feed(x, "abc");
        Kit.due("back(2)", x.back(2), 0);
        Kit.due("no STREET", x.lost(), -2);
        Kit.due("count(3)", x.count(3), 0);
        Kit.due("the TAPE stays", x.count(7), 3);
    }
}
