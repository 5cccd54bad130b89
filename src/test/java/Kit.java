import java.util.ArrayList;
import java.util.List;

/** What the tests share: telling a street, comparing answers, the exit code. */
final class Kit {
    private static int wrong = 0;
    private static int asked = 0;

    private Kit() {
    }

    static void due(String call, long got, long want) {
        asked++;
        if (got != want) {
            wrong++;
            if (wrong <= 40) {
                System.out.println(call + " answered " + got + ", due is " + want);
            }
        }
    }

    static void finish() {
        System.out.println(asked + " answers, " + wrong + " not as due");
        if (wrong != 0 || asked == 0) {
            System.exit(1);
        }
    }

    /** The text comes behind the TAPE, which must be empty; signs above 127 stay bytes. */
    static void feed(ParkingTrees x, String text) {
        List<Integer> bytes = new ArrayList<>();
        for (int i = 0; i < text.length(); i++) {
            bytes.add(text.charAt(i) & 255);
        }
        while (bytes.size() % 20 != 0) {
            bytes.add(32);
        }
        for (int i = 0; i < bytes.size(); i += 20) {
            int[] five = new int[5];
            for (int k = 0; k < 20; k++) {
                five[k / 4] = five[k / 4] << 8 | bytes.get(i + k);
            }
            x.feed(five[0], five[1], five[2], five[3], five[4]);
        }
        x.end(text.length());
    }

    static int tell(ParkingTrees x, String text) {
        feed(x, text);
        return x.street();
    }

    static ParkingTrees told(String text) {
        ParkingTrees x = new ParkingTrees();
        tell(x, text);
        return x;
    }

    /** A street of so many places, a car for each wish, all of which stand at 0. */
    static ParkingTrees wishes(int places, int law, int odds, int... wishes) {
        return told(text(places, law, odds, wishes));
    }

    static String text(int places, int law, int odds, int... wishes) {
        StringBuilder text = new StringBuilder("street places " + places + " law " + law + " odds " + odds + ";");
        for (int wish : wishes) {
            text.append("car wants ").append(wish).append(" stands 0;");
        }
        return text.toString();
    }

    static void row(ParkingTrees x, int slot, int width, long... numbers) {
        x.row(slot, width, numbers.length);
        for (int i = 0; i < numbers.length; i++) {
            x.write(slot, i, numbers[i]);
        }
    }

    static int bits(int... numbers) {
        int bits = 0;
        for (int number : numbers) {
            bits |= 1 << number;
        }
        return bits;
    }
}
