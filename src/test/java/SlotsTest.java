/** Promises 81 to 83, and how rows are asked by 35 to 38 and 59 to 62. */
public final class SlotsTest {
    public static void main(String[] args) {
        rows();
        widths();
        pastes();
        codeRows();
        sightRows();
        Kit.finish();
    }

    private static void rows() {
        ParkingTrees x = new ParkingTrees();
        for (int bad : new int[] {-1, 4, Integer.MIN_VALUE, Integer.MAX_VALUE}) {
            Kit.due("row(bad, 0, 1)", x.row(bad, 0, 1), -2);
            Kit.due("row(bad, 0, -1)", x.row(bad, 0, -1), -2);
            Kit.due("row(0, bad, 1)", x.row(0, bad, 1), -2);
            Kit.due("row(0, bad, -1)", x.row(0, bad, -1), -2);
            Kit.due("write(bad, 0, 0)", x.write(bad, 0, 0), -2);
            Kit.due("paste(bad, ..)", x.paste(bad, 0, 0, 0, 0), -2);
            Kit.due("paste(.., bad, ..)", x.paste(0, 0, bad, 0, 0), -2);
        }
        Kit.due("row(0, 0, 61)", x.row(0, 0, 61), -2);
        Kit.due("row(0, 0, -1)", x.row(0, 0, -1), -3);
        Kit.due("row(0, 0, MIN)", x.row(0, 0, Integer.MIN_VALUE), -3);
        Kit.due("count(8)", x.count(8), 0);
        Kit.due("write() to nothing", x.write(0, 0, 0), -6);
        Kit.due("write() to nothing", x.write(0, -1, 0), -6);
        Kit.due("row(0, 0, 60)", x.row(0, 0, 60), 0);
        Kit.due("row(3, 3, 0)", x.row(3, 3, 0), 0);
        Kit.due("count(8)", x.count(8), 2);
        Kit.due("write(0, 59, 1)", x.write(0, 59, 1), 0);
        Kit.due("write(0, 60, 1)", x.write(0, 60, 1), -7);
        Kit.due("write(0, -1, 1)", x.write(0, -1, 1), -7);
        Kit.due("write(0, MIN, 1)", x.write(0, Integer.MIN_VALUE, 1), -7);
        Kit.due("write(3, 0, 1)", x.write(3, 0, 1), -7);
        Kit.due("a refused row() stays", x.row(0, 1, -5), -3);
        Kit.due("write(0, 59, 1)", x.write(0, 59, 1), 0);
        Kit.due("count(8)", x.count(8), 2);
    }

    /** One CODE number of two places tells what a row holds: 0 .. 2, or another. */
    private static void widths() {
        ParkingTrees x = Kit.wishes(2, 0, 0);
        int[] bits = {8, 16, 32};
        for (int width = 0; width < 4; width++) {
            Kit.due("row()", x.row(0, width, 1), 0);
            Kit.due("all 0", x.above(0, 0), 0);
            for (int over : bits) {
                x.write(0, 0, (1L << over) + 1);
                boolean cut = width < 3 && 8 << width <= over;
                Kit.due("width " + width + ", over " + over, x.above(0, 1), cut ? 1 : -2);
            }
            x.write(0, 0, -1);
            Kit.due("-1 is none", x.above(0, 0), -2);
            x.write(0, 0, Long.MIN_VALUE);
            Kit.due("MIN", x.above(0, 0), width < 3 ? 0 : -2);
            x.write(0, 0, Long.MAX_VALUE);
            Kit.due("MAX", x.above(0, 0), -2);
            x.write(0, 0, 2);
            Kit.due("above(0, 0)", x.above(0, 0), 2);
        }
        x.row(0, 0, 1);
        Kit.due("a new row is all 0", x.above(0, 0), 0);
    }

    private static ParkingTrees pasted(int... at) {
        ParkingTrees x = Kit.wishes(6, 0, 0);
        Kit.row(x, 0, 1, 0, 1, 2, 3, 4);
        Kit.row(x, 1, 1, 5, 5, 5, 5, 5);
        Kit.row(x, 2, 2, 6, 6, 6, 6, 6);
        Kit.due("paste()", x.paste(at[0], at[1], at[2], at[3], at[4]), 0);
        return x;
    }

    private static void same(ParkingTrees x, int slot, long... numbers) {
        ParkingTrees y = Kit.wishes(6, 0, 0);
        Kit.row(y, 0, 0, numbers);
        for (int car = 0; car < 6; car++) {
            Kit.due("pasted row, above()", x.above(slot, car), y.above(0, car));
        }
    }

    private static void pastes() {
        same(pasted(0, 1, 1, 2, 3), 1, 5, 5, 1, 2, 3);
        same(pasted(0, 0, 0, 1, 4), 0, 0, 0, 1, 2, 3);
        same(pasted(0, 1, 0, 0, 4), 0, 1, 2, 3, 4, 4);
        same(pasted(0, 5, 1, 5, 0), 1, 5, 5, 5, 5, 5);
        same(pasted(1, 0, 0, 0, 5), 0, 5, 5, 5, 5, 5);
        ParkingTrees x = pasted(0, 0, 1, 0, 0);
        int[][] beyond = {{-1, 0, 1}, {0, -1, 1}, {0, 0, -1}, {0, 0, 6}, {1, 0, 5}, {0, 1, 5}, {6, 0, 0}, {0, 6, 0},
            {Integer.MAX_VALUE, 0, 1}, {0, Integer.MAX_VALUE, 1}, {1, 1, Integer.MAX_VALUE},
            {Integer.MAX_VALUE, Integer.MAX_VALUE, Integer.MAX_VALUE}, {Integer.MIN_VALUE, 0, Integer.MIN_VALUE}};
        for (int[] b : beyond) {
            Kit.due("beyond", x.paste(0, b[0], 1, b[1], b[2]), -7);
        }
        same(x, 1, 5, 5, 5, 5, 5);
        Kit.due("-8 ahead of -7", x.paste(0, -1, 2, 0, 9), -8);
        Kit.due("-8", x.paste(2, 0, 1, 0, 1), -8);
        Kit.due("-6 ahead of -7", x.paste(0, -1, 3, 0, 9), -6);
        Kit.due("-6", x.paste(3, 0, 0, 0, 1), -6);
        Kit.due("-2 ahead of -6", x.paste(3, 0, 4, 0, 1), -2);
    }

    private static void codeRows() {
        ParkingTrees x = Kit.wishes(3, 0, 0, 2);
        Kit.due("nothing", x.above(1, 0), -6);
        Kit.due("nothing", x.wish(1, 0), -6);
        Kit.due("nothing", x.regain(1, 0), -6);
        Kit.due("nothing", x.upset(1), -6);
        for (int bad : new int[] {-1, 3, Integer.MIN_VALUE, Integer.MAX_VALUE}) {
            Kit.due("-2 ahead of -6", x.above(1, bad), -2);
            Kit.due("-2 ahead of -6", x.wish(1, bad), -2);
            Kit.due("-2 ahead of -6", x.regain(1, bad), -2);
        }
        for (int bad : new int[] {-1, 4}) {
            Kit.due("no SLOT", x.above(bad, 0), -2);
            Kit.due("no SLOT", x.wish(bad, 0), -2);
            Kit.due("no SLOT", x.regain(bad, 0), -2);
            Kit.due("no SLOT", x.upset(bad), -2);
        }
        long[][] wrong = {{}, {0}, {0, 0, 0}, {0, 4}, {-1, 0}};
        for (long[] numbers : wrong) {
            Kit.row(x, 1, 3, numbers);
            Kit.due("no CODE", x.above(1, 0), -2);
            Kit.due("no CODE", x.wish(1, 0), -2);
            Kit.due("no CODE", x.regain(1, 0), -2);
            Kit.due("no CODE", x.upset(1), -2);
        }
        // NODES 3 and 2 hang in a row below 1: 0 - 3, 3 - 2, 2 - 1
        Kit.row(x, 1, 3, 3, 2);
        int[] above = {2, 3, 0};
        int[] wish = {3, 2, 1};
        int[] regain = {1, 1, 1};
        for (int car = 0; car < 3; car++) {
            Kit.due("above(1, " + car + ")", x.above(1, car), above[car]);
            Kit.due("wish(1, " + car + ")", x.wish(1, car), wish[car]);
            Kit.due("regain(1, " + car + ")", x.regain(1, car), regain[car]);
        }
        Kit.due("upset(1)", x.upset(1), 3);
        ParkingTrees none = new ParkingTrees();
        none.row(0, 0, 0);
        Kit.due("no STREET", none.above(0, 0), -2);
        Kit.due("no STREET", none.wish(0, 0), -2);
        Kit.due("no STREET", none.regain(0, 0), -2);
        Kit.due("no STREET", none.upset(0), -2);
    }

    private static void sightRows() {
        // by LAW 0: CAR 0 on 2, CAR 1 on 3, CAR 2 LOST
        ParkingTrees x = Kit.wishes(3, 0, 0, 2, 2, 3);
        Kit.due("nothing", x.fits(1, 0), -6);
        Kit.due("nothing", x.ask(1, 0), -6);
        Kit.due("nothing", x.remain(1, 0), -6);
        Kit.due("nothing", x.laws(1), -6);
        Kit.due("-2 ahead of -6", x.fits(1, 3), -2);
        Kit.due("-2 ahead of -6", x.ask(1, -1), -2);
        Kit.due("-2 ahead of -6", x.remain(1, 3), -2);
        for (int bad : new int[] {-1, 4}) {
            Kit.due("no SLOT", x.fits(bad, 0), -2);
            Kit.due("no SLOT", x.ask(bad, 0), -2);
            Kit.due("no SLOT", x.remain(bad, 0), -2);
            Kit.due("no SLOT", x.laws(bad), -2);
        }
        long[][] wrong = {{0}, {0, 1, 2}, {3, 0}, {-1, 0}, {0, 4}, {0, -1}, {0, 1, 3, 1}};
        for (long[] numbers : wrong) {
            Kit.row(x, 1, 3, numbers);
            Kit.due("no row of SEEN", x.fits(1, 0), -2);
            Kit.due("no row of SEEN", x.ask(1, 0), -2);
            Kit.due("no row of SEEN", x.remain(1, 0), -2);
            Kit.due("no row of SEEN", x.laws(1), -2);
        }
        // of CAR 0: 1 gives 1 2 3, 2 gives 2 3 lost, 3 gives 3 2 lost
        Kit.row(x, 1, 0);
        Kit.due("fits(1, 0)", x.fits(1, 0), 7);
        Kit.due("ask(1, 0)", x.ask(1, 0), 0);
        Kit.due("remain(1, 0)", x.remain(1, 0), 1);
        Kit.row(x, 1, 0, 2, 0);
        Kit.due("fits(1, 0), 2 is LOST", x.fits(1, 0), 6);
        Kit.due("laws(1), 2 is LOST", x.laws(1), 1);
        Kit.row(x, 1, 0, 1, 2, 2, 0);
        Kit.due("fits(1, 0), one left", x.fits(1, 0), 4);
        Kit.due("ask(1, 0), one left", x.ask(1, 0), -1);
        Kit.due("remain(1, 0), one left", x.remain(1, 0), 1);
        Kit.row(x, 1, 0, 1, 2, 1, 3);
        Kit.due("fits(1, 0), none", x.fits(1, 0), 0);
        Kit.due("ask(1, 0), none", x.ask(1, 0), -1);
        Kit.due("remain(1, 0), none", x.remain(1, 0), 0);
        Kit.due("laws(1), none", x.laws(1), 0);
        // by LAW 1: 2, 1, 3; by LAW 2: 2, 3, 1; by LAW 3: 2, 3, 1
        Kit.row(x, 1, 0, 2, 1);
        Kit.due("laws(1)", x.laws(1), Kit.bits(2, 3));
        Kit.row(x, 1, 0, 2, 3);
        Kit.due("laws(1)", x.laws(1), Kit.bits(1));
        ParkingTrees none = new ParkingTrees();
        none.row(0, 0, 0);
        Kit.due("no STREET", none.laws(0), -2);
        Kit.due("no STREET", none.fits(0, 0), -2);
        Kit.due("no STREET", none.ask(0, 0), -2);
        Kit.due("no STREET", none.remain(0, 0), -2);
    }
}
