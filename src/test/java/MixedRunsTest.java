import java.util.ArrayList;
import java.util.List;
import java.util.Random;

/**
 * Long runs that mix every call that changes something: each answers as a plain record of the state says, and in the
 * end the object answers as a new one that was told that state straight.
 */
public final class MixedRunsTest {
    /** With those in the end it stays below the 512 calls that are promised. */
    private static final int CALLS = 320;

    private final Random random;
    private final ParkingTrees x = new ParkingTrees();
    private final State[] images = new State[3];
    private final Row[] rows = new Row[4];
    private State state = new State();
    private String tape = "";
    private int fault = 0;
    private int faultPlace = -1;
    private int calls = 0;

    private MixedRunsTest(Random random) {
        this.random = random;
    }

    public static void main(String[] args) {
        for (int round = 0; round < 500; round++) {
            Kit.part("run " + round);
            new MixedRunsTest(new Random(1000 + round)).run();
        }
        Kit.finish();
    }

    private void run() {
        while (calls < CALLS) {
            calls++;
            step();
        }
        Kit.each("count()", x::count, 0, state.places, state.law, state.odds, state.wishes.size(), state.joins,
            state.acts.size(), state.lines(), tape.length());
        Kit.due("fault(0)", x.fault(0), fault);
        Kit.due("fault(1)", x.fault(1), faultPlace);
        ParkingTrees fresh = rebuilt();
        // what is left on the TAPE and the latest FAULT are no part of the state that was told straight
        x.end(0);
        Kit.tell(x, "!");
        Kit.tell(fresh, "!");
        int car = random.nextInt(4);
        List<Long> got = LeftoversTest.answers(x, car);
        List<Long> due = LeftoversTest.answers(fresh, car);
        for (int i = 0; i < due.size(); i++) {
            Kit.due("answer " + i + " in the end", got.get(i), due.get(i));
        }
    }

    private void step() {
        // a STREET stays long enough for 20 acts
        int kind = state.places == 0 ? random.nextInt(12) : 2 + random.nextInt(48);
        if (kind < 3) {
            tell();
        } else if (kind < 5) {
            cutTape();
        } else if (kind < 7) {
            image(random.nextInt(5) - 1);
        } else if (kind < 8) {
            back(random.nextInt(5) - 1);
        } else if (kind < 12) {
            slots();
        } else if (kind < 16) {
            rate(random.nextInt(10) - 1, random.nextInt(103) - 1);
        } else if (kind < 19) {
            undo();
        } else if (kind < 20) {
            Kit.due("anew()", x.anew(), state.acts.size());
            state.acts.clear();
        } else if (kind < 30) {
            wants(random.nextInt(10) - 1, random.nextInt(10));
        } else {
            trades(random.nextInt(9) - 1, random.nextInt(9) - 1);
        }
    }

    private void tell() {
        State next = State.drawn(random);
        String text = next.text();
        int wrong = 0;
        int place = -1;
        int draw = random.nextInt(6);
        if (draw == 0) {
            wrong = 1;
            place = text.length();
            text += next.places == 0 ? "car" : "street";
        } else if (draw == 1 && next.places > 0) {
            wrong = 2;
            text += "join 1 ";
            place = text.length();
            text += "1;";
        } else if (draw == 2 && next.places > 0 && next.wishes.size() == next.places) {
            wrong = 3;
            place = text.length();
            text += "car";
        }
        Kit.due("end(0)", x.end(0), 0);
        Kit.feed(x, text);
        calls += text.length() / 20 + 4;
        Kit.due("count(7)", x.count(7), text.length());
        Kit.due("street() of '" + text + "'", x.street(), wrong != 0 ? -4 : next.lines());
        tape = "";
        fault = wrong;
        faultPlace = place;
        if (wrong == 0) {
            state = next;
        }
    }

    private void cutTape() {
        if (random.nextInt(3) == 0) {
            int n = random.nextInt(tape.length() + 3) - 1;
            boolean fits = n >= 0 && n <= tape.length();
            Kit.due("end(" + n + ")", x.end(n), fits ? n : -1);
            tape = fits ? tape.substring(0, n) : tape;
        } else {
            boolean fits = tape.length() + 20 <= 500;
            Kit.due("feed()", x.feed(0, -1, 7, 8, 9), fits ? tape.length() + 20 : -1);
            tape += fits ? "?".repeat(20) : "";
        }
    }

    private void image(int k) {
        boolean known = k >= 0 && k < 3;
        Kit.due("image(" + k + ")", x.image(k), known ? 0 : -2);
        if (known) {
            images[k] = state.copy();
        }
    }

    private void back(int k) {
        boolean known = k >= 0 && k < 3;
        Kit.due("back(" + k + ")", x.back(k), !known ? -2 : images[k] == null ? -6 : 0);
        if (known && images[k] != null) {
            state = images[k].copy();
        }
    }

    private void rate(int car, int n) {
        boolean known = car >= 0 && car < state.wishes.size() && n >= 0 && n <= 99;
        boolean refused = !state.acts.isEmpty();
        Kit.due("rate()", x.rate(car, n), !known ? -2 : refused ? -5 : state.stands.get(car));
        if (known && !refused) {
            state.stands.set(car, n);
        }
    }

    private void undo() {
        int acts = state.acts.size();
        Kit.due("undo()", x.undo(), acts == 0 ? -5 : acts - 1);
        if (acts > 0) {
            state.acts.remove(acts - 1);
        }
    }

    private void wants(int car, int place) {
        boolean known = car >= 0 && car < state.wishes.size() && place >= 1 && place <= state.places;
        act(known, x.wants(car, place), car, place, 0);
    }

    private void trades(int car, int other) {
        int cars = state.wishes.size();
        boolean known = car >= 0 && car < cars && other >= 0 && other < cars && car != other;
        act(known, x.trades(car, other), car, other, 1);
    }

    private void act(boolean known, int got, int car, int to, int trade) {
        if (!known || state.acts.size() >= 20) {
            Kit.due("an act refused", got, known ? -5 : -2);
            return;
        }
        state.acts.add(new int[] {car, to, trade});
        Kit.due("CARS lost by an act", got, Integer.bitCount(x.lost()));
        Kit.due("car(" + car + ", 0)", x.car(car, 0), state.now().get(car));
        calls += 2;
    }

    private void slots() {
        int slot = random.nextInt(4);
        if (rows[slot] == null || random.nextInt(4) == 0) {
            int width = random.nextInt(2);
            int length = random.nextBoolean() ? Math.max(0, state.places - 1) : random.nextInt(8);
            Kit.due("row()", x.row(slot, width, length), 0);
            rows[slot] = new Row(width, new long[length]);
        } else if (random.nextBoolean()) {
            int i = random.nextInt(9) - 1;
            int v = random.nextInt(4);
            boolean fits = i >= 0 && i < rows[slot].numbers.length;
            Kit.due("write()", x.write(slot, i, v + 65536L * random.nextInt()), fits ? 0 : -7);
            if (fits) {
                rows[slot].numbers[i] = v;
            }
        } else {
            paste(slot, random.nextInt(4), random.nextInt(5), random.nextInt(5), random.nextInt(5));
        }
    }

    private void paste(int slot, int to, int i, int k, int n) {
        int got = x.paste(slot, i, to, k, n);
        if (rows[to] == null) {
            Kit.due("paste() to nothing", got, -6);
        } else if (rows[slot].width != rows[to].width) {
            Kit.due("paste() of unlike WIDTHS", got, -8);
        } else if (i + n > rows[slot].numbers.length || k + n > rows[to].numbers.length) {
            Kit.due("paste() beyond", got, -7);
        } else {
            Kit.due("paste()", got, 0);
            long[] moved = rows[slot].numbers.clone();
            for (int q = 0; q < n; q++) {
                rows[to].numbers[k + q] = moved[i + q];
            }
        }
    }

    private ParkingTrees rebuilt() {
        ParkingTrees fresh = new ParkingTrees();
        Kit.tell(fresh, state.text());
        for (int[] act : state.acts) {
            if (act[2] == 1) {
                fresh.trades(act[0], act[1]);
            } else {
                fresh.wants(act[0], act[1]);
            }
        }
        for (int slot = 0; slot < 4; slot++) {
            if (rows[slot] != null) {
                Kit.row(fresh, slot, rows[slot].width, rows[slot].numbers);
            }
        }
        return fresh;
    }

    private record Row(int width, long[] numbers) {
    }

    /** A STREET as it would be told now, and acts; without places there is none. */
    private static final class State {
        private int places;
        private int law;
        private int odds;
        private final List<Integer> wishes = new ArrayList<>();
        private final List<Integer> stands = new ArrayList<>();
        private final List<int[]> acts = new ArrayList<>();
        /** JOINS are of neighbours from 1 on, which never cross. */
        private int joins;

        static State drawn(Random random) {
            State s = new State();
            if (random.nextInt(8) == 0) {
                return s;
            }
            s.places = 1 + random.nextInt(8);
            s.law = random.nextInt(4);
            s.odds = random.nextInt(11);
            s.joins = random.nextInt(s.places + 1);
            int cars = random.nextInt(4) == 0 ? random.nextInt(s.places + 1) : s.places;
            for (int i = 0; i < cars; i++) {
                s.wishes.add(1 + random.nextInt(random.nextInt(6) == 0 ? s.places : i + 1));
                s.stands.add(random.nextInt(30));
            }
            return s;
        }

        State copy() {
            State s = new State();
            s.places = places;
            s.law = law;
            s.odds = odds;
            s.joins = joins;
            s.wishes.addAll(wishes);
            s.stands.addAll(stands);
            s.acts.addAll(acts);
            return s;
        }

        int lines() {
            return places == 0 ? 0 : 1 + wishes.size() + joins;
        }

        List<Integer> now() {
            List<Integer> now = new ArrayList<>(wishes);
            for (int[] act : acts) {
                if (act[2] == 1) {
                    now.set(act[1], now.set(act[0], now.get(act[1])));
                } else {
                    now.set(act[0], act[1]);
                }
            }
            return now;
        }

        String text() {
            if (places == 0) {
                return "";
            }
            StringBuilder text = new StringBuilder(Kit.text(places, law, odds));
            for (int car = 0; car < wishes.size(); car++) {
                text.append("car wants ").append(wishes.get(car)).append(" stands ").append(stands.get(car)).append(";");
            }
            for (int number = 1; number <= joins; number++) {
                text.append("join ").append(number).append(' ').append(number + 1).append(';');
            }
            return text.toString();
        }
    }
}
