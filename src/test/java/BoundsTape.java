/** Boundary cases of term I and promises 1 to 5: the TAPE, the text, FAULTS. */
final class BoundsTape {
    private static final String HEAD = "street places 3 law 2 odds 5;";
    private static final int BLANKS = 0x20202020;

    private BoundsTape() {
    }

    static int feedBlanks(ParkingTrees x) {
        return x.feed(BLANKS, BLANKS, BLANKS, BLANKS, BLANKS);
    }

    private static void faulty(String text, int fault, int place) {
        ParkingTrees x = new ParkingTrees();
        Kit.due("'" + text + "' street()", Kit.tell(x, text), -4);
        Kit.due("'" + text + "' fault(0)", x.fault(0), fault);
        Kit.due("'" + text + "' fault(1)", x.fault(1), place);
    }

    private static void good(String text, int lines) {
        ParkingTrees x = new ParkingTrees();
        Kit.due("'" + text + "' street()", Kit.tell(x, text), lines);
        Kit.due("'" + text + "' fault(0)", x.fault(0), 0);
        Kit.due("'" + text + "' fault(1)", x.fault(1), -1);
    }

    // ---- term I

    static void t1_numbersOfTheHead() {
        good("street places 1 law 0 odds 0;", 1);
        good("street places 8 law 3 odds 10;", 1);
        faulty("street places 0 law 0 odds 0;", 2, 14);
        faulty("street places 9 law 0 odds 0;", 2, 14);
        faulty("street places 1 law 4 odds 0;", 2, 20);
        faulty("street places 1 law 0 odds 11;", 2, 27);
    }

    static void t1_numbersOfACar() {
        good(HEAD + "car wants 1 stands 0;car wants 3 stands 99;", 3);
        faulty(HEAD + "car wants 0 stands 0;", 2, 39);
        faulty(HEAD + "car wants 4 stands 0;", 2, 39);
        faulty(HEAD + "car wants 3 stands 100;", 2, 48);
        good("street places 8 law 0 odds 0;car wants 8 stands 0;", 2);
    }

    static void t1_numbersOfAJoin() {
        good(HEAD + "join 1 4;", 2);
        good(HEAD + "join 4 1;", 2);
        faulty(HEAD + "join 0 1;", 2, 34);
        faulty(HEAD + "join 5 1;", 2, 34);
        faulty(HEAD + "join 1 0;", 2, 36);
        faulty(HEAD + "join 1 5;", 2, 36);
        good("street places 8 law 0 odds 0;join 9 1;", 2);
        faulty("street places 8 law 0 odds 0;join 10 1;", 2, 34);
    }

    static void t1_joinsThatMayNotBe() {
        faulty(HEAD + "join 2 2;", 2, 36);
        faulty(HEAD + "join 1 2;join 2 1;", 2, 45);
        faulty(HEAD + "join 1 2;join 2 3;join 1 3;", 2, 54);
        faulty(HEAD + "join 1 3;join 2 4;", 2, 45);
        faulty(HEAD + "join 1 3;join 4 2;", 2, 45);
        good(HEAD + "join 1 3;join 2 3;join 4 2;", 4);
        good(HEAD + "join 2 3;join 1 4;", 3);
        good(HEAD + "join 1 2;join 3 4;", 3);
        // each number is good by itself, so the FAULT is the second one's, but the first is asked ahead of it
        faulty(HEAD + "join 5 5;", 2, 34);
        faulty(HEAD + "join 0 0;", 2, 34);
    }

    static void t1_longAndOddNumbers() {
        good("street places 08 law 03 odds 010;", 1);
        good("street places 000000000000000000000000000000000000000008 law 0 odds 0;", 1);
        faulty("street places 00 law 0 odds 0;", 2, 14);
        faulty("street places 257 law 0 odds 0;", 2, 14);
        faulty("street places 65537 law 0 odds 0;", 2, 14);
        faulty("street places 4294967297 law 0 odds 0;", 2, 14);
        faulty("street places 18446744073709551617 law 0 odds 0;", 2, 14);
        faulty("street places 1 law 4294967296 odds 0;", 2, 20);
        faulty(HEAD + "join 4294967297 2;", 2, 34);
        faulty(HEAD + "join 1 4294967298;", 2, 36);
    }

    static void t1_streetIsTheFirstLineAndNoOther() {
        faulty("car wants 1 stands 0;", 1, 0);
        faulty("join 1 2;", 1, 0);
        faulty("  join 1 2;", 1, 2);
        faulty(HEAD + HEAD, 1, 29);
        faulty(HEAD + "join 1 2;" + HEAD, 1, 38);
        faulty(HEAD + " \n" + HEAD, 1, 31);
        faulty("street", 1, 6);
        faulty("streetplaces 1", 1, 0);
    }

    static void t1_asManyCarsAsPlaces() {
        String one = "car wants 1 stands 0;";
        good("street places 1 law 0 odds 0;" + one, 2);
        faulty("street places 1 law 0 odds 0;" + one + one, 3, 50);
        faulty("street places 1 law 0 odds 0;" + one + "join 1 2;" + one, 3, 59);
        faulty("street places 1 law 0 odds 0;" + one + "  car", 3, 52);
        faulty("street places 1 law 0 odds 0;" + one + "car wants 9", 3, 50);
        faulty("street places 1 law 0 odds 0;" + one + "cars", 1, 50);
        good("street places 8 law 0 odds 0;" + one.repeat(8), 9);
        faulty("street places 8 law 0 odds 0;" + one.repeat(9), 3, 197);
    }

    static void t1_asManyJoinsAsPlaces() {
        good("street places 1 law 0 odds 0;join 1 2;", 2);
        faulty("street places 1 law 0 odds 0;join 1 2;join 1 2;", 2, 45);
        StringBuilder text = new StringBuilder("street places 8 law 0 odds 0;");
        for (int number = 1; number <= 8; number++) {
            text.append("join ").append(number).append(" 9;");
        }
        good(text.toString(), 9);
        faulty(text + "join 1 9;", 2, text.length() + 7);
    }

    static void t1_everyTokenMissing() {
        String[] tokens = {"street", "places", "3", "law", "0", "odds", "0", ";", "car", "wants", "1", "stands", "1",
            ";", "join", "1", "2", ";"};
        StringBuilder whole = new StringBuilder();
        for (int i = 0; i < tokens.length; i++) {
            // the text that ends here, another word, another number and a sign that is none in its place
            boolean between = i == 0 || i == 8 || i == 14;
            if (!between) {
                faulty(whole.toString(), 1, whole.length());
                faulty(whole + "\n ", 1, whole.length() + 2);
            }
            faulty(whole + " zebra", 1, whole.length() + 1);
            faulty(whole + " !", 1, whole.length() + 1);
            if (!Character.isDigit(tokens[i].charAt(0))) {
                faulty(whole + " 1", 1, whole.length() + 1);
            }
            if (!tokens[i].equals(";")) {
                faulty(whole + " ;", 1, whole.length() + 1);
            }
            whole.append(' ').append(tokens[i]);
        }
        good(whole.toString(), 3);
    }

    static void t1_signsThatAreNoToken() {
        for (int sign = 0; sign < 256; sign++) {
            boolean word = sign >= 'a' && sign <= 'z';
            boolean number = sign >= '0' && sign <= '9';
            boolean blank = sign == 32 || sign == 10;
            if (word || number || blank || sign == ';') {
                continue;
            }
            faulty(HEAD + (char) sign, 1, 29);
            // a sign that is none ends a word, and has a place of its own behind it
            faulty("street" + (char) sign + "places", 1, 6);
        }
        good("\n \nstreet\nplaces\n1 law 0\n\nodds 0\n;\n ", 1);
    }

    static void t1_theLongestTokens() {
        good("street places1law0odds0;car wants1stands1;join1 2;", 3);
        faulty("street places 1law 00dds 0;", 1, 21);
        faulty("street places 1 law 0 odds 1 0;", 1, 29);
        faulty(HEAD + "join 12;", 2, 34);
        faulty(HEAD + "carwants 1 stands 0;", 1, 29);
        faulty("str eet places 1", 1, 0);
        faulty("street places 1 law 0 odds 0;;", 1, 29);
    }

    static void t1_everyLetterOfEveryWord() {
        String text = "street places 3 law 0 odds 0;car wants 1 stands 1;join 1 2;";
        int word = 0;
        for (int i = 0; i < text.length(); i++) {
            boolean letter = Character.isLetter(text.charAt(i));
            if (!letter) {
                word = i + 1;
                continue;
            }
            for (char other : new char[] {'a', 'm', 'z'}) {
                if (text.charAt(i) != other) {
                    faulty(text.substring(0, i) + other + text.substring(i + 1), 1, word);
                }
            }
        }
        good(text, 3);
    }

    static void t1_theFirstFaultByItsPlace() {
        faulty("street places 9 law 9 odds 99;", 2, 14);
        faulty("street places 1 law 0 odds 99!", 2, 27);
        faulty("street places 1 law 0 odds 9!", 1, 28);
        faulty(HEAD + "car wants 9 !", 2, 39);
        faulty(HEAD + "car ! wants 9", 1, 33);
    }

    // ---- promises 1 to 5

    static void p1_aNewObject() {
        ParkingTrees x = new ParkingTrees();
        for (int what = 0; what <= 8; what++) {
            Kit.due("count(" + what + ")", x.count(what), 0);
        }
        Kit.due("lawful()", x.lawful(), -2);
        Kit.due("hole()", x.hole(), -2);
        Kit.due("blocks()", x.blocks(), -2);
        Kit.due("mean(0)", x.mean(0), -2);
        Kit.due("undo()", x.undo(), -2);
        Kit.each("back", x::back, 0, -6, -6, -6);
        Kit.each("write", slot -> x.write(slot, 0, 0), 0, -6, -6, -6, -6);
        Kit.due("end(0)", x.end(0), 0);
        Kit.due("end(1)", x.end(1), -1);
    }

    static void p2_fiveHundredBytesAreFull() {
        ParkingTrees x = new ParkingTrees();
        for (int i = 1; i <= 25; i++) {
            Kit.due("feed " + i, feedBlanks(x), 20 * i);
        }
        Kit.due("one more", x.feed(-1, -1, -1, -1, -1), -1);
        Kit.due("as many as before", x.count(7), 500);
        Kit.due("none came", x.street(), 0);
        Kit.due("room again", feedBlanks(x), 20);
    }

    static void p2_moreThanFiveHundred() {
        ParkingTrees x = new ParkingTrees();
        for (int length = 481; length <= 499; length++) {
            fillTo(x, length);
            Kit.due("feed at " + length, x.feed(-1, -1, -1, -1, -1), -1);
            Kit.due("count(7)", x.count(7), length);
            Kit.due("none came", x.street(), 0);
        }
        fillTo(x, 480);
        Kit.due("just 500", feedBlanks(x), 500);
    }

    private static void fillTo(ParkingTrees x, int length) {
        x.end(0);
        for (int i = 0; i < 25; i++) {
            feedBlanks(x);
        }
        x.end(length);
    }

    static void p2_theHighestFirst() {
        for (int place = 0; place < 20; place++) {
            for (int sign : new int[] {0, 1, 127, 128, 255}) {
                int[] five = {BLANKS, BLANKS, BLANKS, BLANKS, BLANKS};
                int shift = 24 - place % 4 * 8;
                five[place / 4] = five[place / 4] & ~(255 << shift) | sign << shift;
                ParkingTrees x = new ParkingTrees();
                x.feed(five[0], five[1], five[2], five[3], five[4]);
                Kit.due("street()", x.street(), -4);
                Kit.due("the place of byte " + sign, x.fault(1), place);
            }
        }
    }

    static void p3_endAtTheLength() {
        ParkingTrees x = new ParkingTrees();
        Kit.due("end(0), empty", x.end(0), 0);
        Kit.due("end(1), empty", x.end(1), -1);
        feedBlanks(x);
        Kit.due("end(MIN)", x.end(Integer.MIN_VALUE), -1);
        Kit.due("end(MAX)", x.end(Integer.MAX_VALUE), -1);
        Kit.due("it has not so many", x.end(21), -1);
        Kit.due("nothing happens", x.count(7), 20);
        Kit.due("all", x.end(20), 20);
        Kit.due("below 0", x.end(-1), -1);
        Kit.due("nothing happens", x.count(7), 20);
        Kit.due("end(19)", x.end(19), 19);
        Kit.due("cut off", x.end(20), -1);
        Kit.due("count(7)", x.count(7), 19);
        Kit.due("end(0)", x.end(0), 0);
        Kit.due("count(7)", x.count(7), 0);
    }

    static void p3_theFirstBytesAlone() {
        ParkingTrees x = new ParkingTrees();
        Kit.feed(x, "street places 1 law 0 odds 0;!");
        Kit.due("end(29)", x.end(29), 29);
        Kit.due("without the last", x.street(), 1);
        Kit.feed(x, "street places 1 ");
        x.feed(0x6c617720, 0x30206f64, 0x64732030, 0x3b202020, 0x21212121);
        Kit.due("behind what was left", x.end(32), 32);
        Kit.due("street()", x.street(), 1);
    }

    static void p3_whatIsCutOffIsNotRead() {
        cutOff("streets", 6, 1, 6);
        cutOff("street places 12", 15, 1, 15);
        cutOff("street places 1 law 0 odds 10;", 28, 1, 28);
        cutOff("street places 1 law 0 odds 0;", 28, 1, 28);
        cutOff("street places 1 law 0 odds 0;car", 31, 1, 29);
        ParkingTrees x = new ParkingTrees();
        Kit.feed(x, "street places 1 law 0 odds 0;!");
        x.end(29);
        Kit.due("a sign behind the end", x.street(), 1);
        Kit.feed(x, "street");
        x.end(0);
        Kit.due("all of it", x.street(), 0);
    }

    private static void cutOff(String text, int length, int fault, int place) {
        ParkingTrees x = new ParkingTrees();
        Kit.feed(x, text);
        Kit.due("end(" + length + ")", x.end(length), length);
        Kit.due("'" + text + "' street()", x.street(), -4);
        Kit.due("'" + text + "' fault(0)", x.fault(0), fault);
        Kit.due("'" + text + "' fault(1)", x.fault(1), place);
    }

    static void p4_emptyTapes() {
        ParkingTrees x = Kit.told("street places 2 law 3 odds 5;car wants 1 stands 9;join 1 2;");
        x.wants(0, 2);
        x.image(1);
        Kit.row(x, 2, 0, 1, 2);
        Kit.due("empty", x.street(), 0);
        Kit.due("there is none then", x.free(), -2);
        for (int what = 0; what <= 7; what++) {
            Kit.due("count(" + what + ")", x.count(what), 0);
        }
        Kit.due("SLOTS stay", x.count(8), 1);
        Kit.due("IMAGES stay", x.back(1), 0);
        Kit.due("count(5)", x.count(5), 1);
        Kit.due("blanks alone", Kit.tell(x, " \n\n "), 0);
        Kit.due("there is none then", x.free(), -2);
    }

    static void p4_aFaultAndAllStays() {
        ParkingTrees x = Kit.told("street places 4 law 1 odds 7;car wants 2 stands 30;car wants 2 stands 40;join 2 4;");
        x.rate(1, 41);
        x.wants(0, 4);
        x.image(0);
        x.trades(0, 1);
        Kit.row(x, 3, 1, 5);
        Kit.due("a FAULT", Kit.tell(x, "street places 2 law 0 odds 0;car wants 1 stands 1;join 1 3;join 3 1;"), -4);
        int[] counts = {4, 1, 7, 2, 1, 2, 4, 0, 1};
        for (int what = 0; what < counts.length; what++) {
            Kit.due("count(" + what + ")", x.count(what), counts[what]);
        }
        Kit.due("wishes", x.car(0, 0), 2);
        Kit.due("wishes", x.car(1, 0), 4);
        Kit.due("where it stands", x.car(1, 1), 41);
        Kit.due("joins", x.merged(0), 10);
        Kit.due("acts", x.undo(), 1);
        Kit.due("wishes", x.car(0, 0), 4);
        Kit.due("IMAGE", x.back(0), 0);
        ParkingTrees y = new ParkingTrees();
        Kit.due("a FAULT", Kit.tell(y, "street"), -4);
        Kit.due("none was there", y.free(), -2);
    }

    static void p4_inPlaceOfAnother() {
        ParkingTrees x = Kit.told("street places 8 law 3 odds 9;" + "car wants 5 stands 50;".repeat(8) + "join 1 9;");
        x.wants(0, 1);
        Kit.due("another", Kit.tell(x, "street places 2 law 1 odds 0;car wants 2 stands 3;"), 2);
        int[] counts = {2, 1, 0, 1, 0, 0, 2, 0, 0};
        for (int what = 0; what < counts.length; what++) {
            Kit.due("count(" + what + ")", x.count(what), counts[what]);
        }
        Kit.due("car(0, 0)", x.car(0, 0), 2);
        Kit.due("car(0, 1)", x.car(0, 1), 3);
        Kit.due("car(1, 0)", x.car(1, 0), -2);
        Kit.due("nothing done", x.undo(), -5);
        Kit.due("merged(0)", x.merged(0), -2);
    }

    static void p4_theLargestStreet() {
        StringBuilder text = new StringBuilder("street places 8 law 3 odds 10;");
        text.append("car wants 8 stands 99;".repeat(8));
        for (int number = 1; number <= 8; number++) {
            text.append("join ").append(number).append(" 9;");
        }
        text.append("\n".repeat(500 - text.length()));
        ParkingTrees x = new ParkingTrees();
        Kit.feed(x, text.toString());
        Kit.due("count(7)", x.count(7), 500);
        Kit.due("street()", x.street(), 17);
        Kit.due("count(3)", x.count(3), 8);
        Kit.due("count(4)", x.count(4), 8);
        Kit.due("count(7)", x.count(7), 0);
    }

    static void p5_aheadOfAny() {
        ParkingTrees x = new ParkingTrees();
        Kit.due("fault(0)", x.fault(0), 0);
        Kit.due("fault(1)", x.fault(1), -1);
        Kit.bounded("fault", x::fault, -1, 0, 0);
        Kit.feed(x, "!");
        Kit.due("the TAPE is not read yet", x.fault(0), 0);
        Kit.due("the TAPE is not read yet", x.fault(1), -1);
    }

    static void p5_ofTheLatest() {
        ParkingTrees x = new ParkingTrees();
        Kit.tell(x, "street places 9");
        Kit.due("fault(0)", x.fault(0), 2);
        Kit.due("fault(1)", x.fault(1), 14);
        Kit.bounded("fault", x::fault, -1, 0, 1);
        Kit.feed(x, "street");
        x.end(0);
        x.image(0);
        x.back(0);
        Kit.due("no street() yet", x.fault(0), 2);
        Kit.tell(x, " ;");
        Kit.due("fault(0)", x.fault(0), 1);
        Kit.due("fault(1)", x.fault(1), 1);
        x.street();
        Kit.due("without", x.fault(0), 0);
        Kit.due("without", x.fault(1), -1);
        Kit.tell(x, "!");
        Kit.due("place 0", x.fault(1), 0);
        Kit.tell(x, "street places 1 law 0 odds 0;");
        Kit.due("without", x.fault(0), 0);
        Kit.due("without", x.fault(1), -1);
    }

    static void p5_theEndOfAFullTape() {
        ParkingTrees x = new ParkingTrees();
        Kit.tell(x, "street" + " ".repeat(494));
        Kit.due("fault(0)", x.fault(0), 1);
        Kit.due("fault(1)", x.fault(1), 500);
        Kit.tell(x, " ".repeat(499) + "!");
        Kit.due("the last byte", x.fault(1), 499);
    }
}
