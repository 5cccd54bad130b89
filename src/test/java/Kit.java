import java.util.ArrayList;
import java.util.List;
import java.util.function.IntUnaryOperator;

/** What the tests share: telling a street, comparing answers, the exit code. */
final class Kit {
    private static int wrong = 0;
    private static int asked = 0;
    private static String part = "";

    private Kit() {
    }

    /** What is told ahead of each answer that is not as due, from now on. */
    static void part(String name) {
        part = name + ": ";
    }

    static void due(String call, long got, long want) {
        asked++;
        if (got != want) {
            wrong++;
            if (wrong <= 40) {
                System.out.println(part + call + " answered " + got + ", due is " + want);
            }
        }
    }

    /** The call is refused just outside of its bounds and far outside, and not at the bounds. */
    static void bounded(String call, IntUnaryOperator asked, int refusal, int least, int most) {
        for (int bad : new int[] {Integer.MIN_VALUE, least - 1, most + 1, Integer.MAX_VALUE}) {
            due(call + " of " + bad, asked.applyAsInt(bad), refusal);
        }
        for (int good : new int[] {least, most}) {
            due(call + " of " + good + " is refused", asked.applyAsInt(good) == refusal ? 1 : 0, 0);
        }
    }

    /** The call of 0, 1, .. (or from another number on) has these answers. */
    static void each(String call, IntUnaryOperator asked, int from, int... answers) {
        for (int i = 0; i < answers.length; i++) {
            due(call + " of " + (from + i), asked.applyAsInt(from + i), answers[i]);
        }
    }

    static void finish() {
        System.out.println(asked + " answers, " + wrong + " not as due");
        if (wrong != 0 || asked == 0) {
            System.exit(1);
        }
    }

    /** The text comes behind the TAPE, which must be empty; signs above 127 stay bytes. */
    static void feed(ParkingTrees x, String text) {
        List<Integer> bytes = new ArrayList<>();
        for (int i = 0; i < text.length(); i++) {
            bytes.add(text.charAt(i) & 255);
        }
        while (bytes.size() % 20 != 0) {
            bytes.add(32);
        }
        for (int i = 0; i < bytes.size(); i += 20) {
            int[] five = new int[5];
            for (int k = 0; k < 20; k++) {
                five[k / 4] = five[k / 4] << 8 | bytes.get(i + k);
            }
            x.feed(five[0], five[1], five[2], five[3], five[4]);
        }
        x.end(text.length());
    }

    static int tell(ParkingTrees x, String text) {
        feed(x, text);
        return x.street();
    }

    static ParkingTrees told(String text) {
        ParkingTrees x = new ParkingTrees();
        tell(x, text);
        return x;
    }

    /** A street of so many places, a car for each wish, all of which stand at 0. */
    static ParkingTrees wishes(int places, int law, int odds, int... wishes) {
        return told(text(places, law, odds, wishes));
    }

    static String text(int places, int law, int odds, int... wishes) {
        StringBuilder text = new StringBuilder("street places " + places + " law " + law + " odds " + odds + ";");
        for (int wish : wishes) {
            text.append("car wants ").append(wish).append(" stands 0;");
        }
        return text.toString();
    }

    static void row(ParkingTrees x, int slot, int width, long... numbers) {
        x.row(slot, width, numbers.length);
        for (int i = 0; i < numbers.length; i++) {
            x.write(slot, i, numbers[i]);
        }
    }

    static int bits(int... numbers) {
        int bits = 0;
        for (int number : numbers) {
            bits |= 1 << number;
        }
        return bits;
    }
}
