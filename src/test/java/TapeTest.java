/** Promises 1 to 5: a new object, feed, end, street, fault. */
public final class TapeTest {
    private static final String HEAD = "street places 3 law 2 odds 5;";

    public static void main(String[] args) {
        newObject();
        feedAndEnd();
        streets();
        faults();
        joinFaults();
        whatStays();
        Kit.finish();
    }

    private static void newObject() {
        ParkingTrees x = new ParkingTrees();
        for (int what = 0; what <= 8; what++) {
            Kit.due("new count(" + what + ")", x.count(what), 0);
        }
        Kit.due("new lost", x.lost(), -2);
        Kit.due("new blocks", x.blocks(), -2);
        Kit.due("new fault(0)", x.fault(0), 0);
        Kit.due("new fault(1)", x.fault(1), -1);
        Kit.due("new fault(2)", x.fault(2), -1);
        Kit.due("new fault(-1)", x.fault(-1), -1);
        for (int k = 0; k < 3; k++) {
            Kit.due("new back(" + k + ")", x.back(k), -6);
        }
        Kit.due("street() of an empty TAPE", x.street(), 0);
    }

    private static void feedAndEnd() {
        ParkingTrees x = new ParkingTrees();
        for (int i = 1; i <= 25; i++) {
            Kit.due("feed " + i, x.feed(0, 0, 0, 0, 0), 20 * i);
        }
        Kit.due("feed 26", x.feed(0, 0, 0, 0, 0), -1);
        Kit.due("count(7)", x.count(7), 500);
        Kit.due("end(501)", x.end(501), -1);
        Kit.due("end(-1)", x.end(-1), -1);
        Kit.due("end(MIN)", x.end(Integer.MIN_VALUE), -1);
        Kit.due("end(481)", x.end(481), 481);
        Kit.due("feed at 481", x.feed(0, 0, 0, 0, 0), -1);
        Kit.due("count(7)", x.count(7), 481);
        Kit.due("end(482)", x.end(482), -1);
        Kit.due("end(481), all", x.end(481), 481);
        Kit.due("end(480)", x.end(480), 480);
        Kit.due("feed at 480", x.feed(0, 0, 0, 0, 0), 500);
        Kit.due("end(0)", x.end(0), 0);
        Kit.due("street()", x.street(), 0);
        // the highest byte first: a wrong sign as the last of the twenty bytes
        Kit.due("feed", x.feed(0x20202020, 0x20202020, 0x20202020, 0x20202020, 0x202020ff), 20);
        Kit.due("street()", x.street(), -4);
        Kit.due("fault(1)", x.fault(1), 19);
        Kit.due("feed", x.feed(0x20203b20, 0x20202020, 0x20202020, 0x20202020, 0x20202020), 20);
        Kit.due("street()", x.street(), -4);
        Kit.due("fault(1)", x.fault(1), 2);
    }

    private static void streets() {
        ParkingTrees x = new ParkingTrees();
        Kit.due("blanks", Kit.tell(x, " \n \n"), 0);
        Kit.due("no STREET", x.lost(), -2);
        Kit.due("head", Kit.tell(x, HEAD), 1);
        Kit.due("TAPE is empty", x.count(7), 0);
        Kit.due("count(0)", x.count(0), 3);
        Kit.due("count(1)", x.count(1), 2);
        Kit.due("count(2)", x.count(2), 5);
        Kit.due("no blanks", Kit.tell(x, "street\nplaces08law3odds010;car\n\nwants8stands099;join1 9;"), 3);
        Kit.due("count(0)", x.count(0), 8);
        Kit.due("count(1)", x.count(1), 3);
        Kit.due("count(2)", x.count(2), 10);
        Kit.due("count(3)", x.count(3), 1);
        Kit.due("count(4)", x.count(4), 1);
        Kit.due("count(6)", x.count(6), 3);
        Kit.due("car(0, 0)", x.car(0, 0), 8);
        Kit.due("car(0, 1)", x.car(0, 1), 99);
        Kit.due("many noughts", Kit.tell(x, "street places 000000000000000000000000000001 law 0 odds 0;"), 1);
        Kit.due("empty again", x.street(), 0);
        Kit.due("no STREET then", x.count(0), 0);
        Kit.due("no STREET then", x.sum(), -2);
        Kit.due("fault(0)", x.fault(0), 0);
    }

    private static void refused(String text, int fault, int place) {
        ParkingTrees x = new ParkingTrees();
        Kit.due("'" + text + "' street()", Kit.tell(x, text), -4);
        Kit.due("'" + text + "' fault(0)", x.fault(0), fault);
        Kit.due("'" + text + "' fault(1)", x.fault(1), place);
        Kit.due("'" + text + "' fault(2)", x.fault(2), -1);
    }

    private static void faults() {
        refused(";", 1, 0);
        refused("  7", 1, 2);
        refused("car wants 1 stands 1;", 1, 0);
        refused("streets places 3", 1, 0);
        refused("stree", 1, 0);
        refused("street", 1, 6);
        refused("street  ", 1, 8);
        refused("street law 3", 1, 7);
        refused("street places law", 1, 14);
        refused("street places ;", 1, 14);
        refused("street places 0 !", 2, 14);
        refused("street places 9", 2, 14);
        refused("street places 4294967297", 2, 14);
        refused("street places 99999999999999999999999999", 2, 14);
        refused("street places 1!", 1, 15);
        refused("street places -1", 1, 14);
        refused("street places 1 law 4", 2, 20);
        refused("street places 1 law 0 odds 11;", 2, 27);
        refused("street places 1 law 0 odds 10", 1, 29);
        refused("street places 1 law 0 odds 10 \n", 1, 31);
        refused("street places 1 law 0 odds 10 car", 1, 30);
        refused("street places 1 law 0 odds 10;;", 1, 30);
        refused("Street places 1", 1, 0);
        refused("street\tplaces 1", 1, 6);
        refused("street\rplaces 1", 1, 6);
        refused("street pl" + (char) 0xe1 + "ces 1", 1, 7);
        refused("street " + (char) 0xf3, 1, 7);
        refused(HEAD + HEAD, 1, 29);
        refused(HEAD + "cars", 1, 29);
        refused(HEAD + "carz wants 1", 1, 29);
        refused(HEAD + "acar wants 1", 1, 29);
        refused(HEAD + "car 1", 1, 33);
        refused(HEAD + "car wants 0 stands 100", 2, 39);
        refused(HEAD + "car wants 4", 2, 39);
        refused(HEAD + "car wants 3 stands 100;", 2, 48);
        refused(HEAD + "car wants 3 stands;", 1, 47);
        refused(HEAD + "car wants 3 stands 1", 1, 49);
        refused("street places 1 law 0 odds 0;car wants 1 stands 0;car wants 9 stands 0;", 3, 50);
        refused("street places 1 law 0 odds 0;car wants 1 stands 0;car", 3, 50);
        refused("street places 1 law 0 odds 0;car wants 1 stands 0;cart", 1, 50);
        refused("street places 1 law 0 odds 0;car wants 1 stands 0 car", 1, 50);
    }

    private static void joinFaults() {
        refused(HEAD + "join;", 1, 33);
        refused(HEAD + "join 0 9;", 2, 34);
        refused(HEAD + "join 5 1;", 2, 34);
        refused(HEAD + "join 1;", 1, 35);
        refused(HEAD + "join 1 join", 1, 36);
        refused(HEAD + "join 1 5;", 2, 36);
        refused(HEAD + "join 1 0;", 2, 36);
        refused(HEAD + "join 4 4;", 2, 36);
        refused(HEAD + "join 1 3;join 2 4;", 2, 45);
        refused(HEAD + "join 1 3;join 3 1;", 2, 45);
        refused(HEAD + "join 2 4;join 3 1;", 2, 45);
        refused(HEAD + "join 1 2 3", 1, 38);
        ParkingTrees x = new ParkingTrees();
        Kit.due("joins", Kit.tell(x, HEAD + "join 4 1;join 3 2;join 2 1;"), 4);
    }

    private static void whatStays() {
        ParkingTrees x = Kit.wishes(3, 1, 4, 1, 1);
        x.wants(0, 3);
        Kit.due("a FAULT", Kit.tell(x, "street places 2 law 0 odds 0;car wants 3"), -4);
        Kit.due("TAPE is empty", x.count(7), 0);
        Kit.due("places stay", x.count(0), 3);
        Kit.due("CARS stay", x.count(3), 2);
        Kit.due("acts stay", x.count(5), 1);
        Kit.due("wishes stay", x.car(0, 0), 3);
        Kit.due("LINES stay", x.count(6), 3);
        Kit.due("another", Kit.tell(x, "street places 2 law 0 odds 0;"), 1);
        Kit.due("nothing done", x.count(5), 0);
        Kit.due("no CARS", x.count(3), 0);
        Kit.due("fault(0)", x.fault(0), 0);
        Kit.due("fault(1)", x.fault(1), -1);
        Kit.due("undo()", x.undo(), -5);
    }
}
