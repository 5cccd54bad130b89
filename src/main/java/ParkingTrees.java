/**
 * Parking rows, labelled trees and their tallies; DOC.md beside the project says what each call promises.
 *
 * Every array is made in the constructor and used again, since all calls of a run share one room.
 */
public final class ParkingTrees {
    public static final int NONE = -1;

    private static final int MISSING = -2;
    private static final int NEGATIVE = -3;
    private static final int FAULTY = -4;
    private static final int REFUSED = -5;
    private static final int EMPTY = -6;
    private static final int BEYOND = -7;
    private static final int UNLIKE = -8;
    private static final int NO_GAIN = -1000;
    private static final int NO_SHARE = -1000000;

    private static final int MOST_BYTES = 500;
    private static final int MOST_PLACES = 8;
    private static final int MOST_NODES = 9;
    private static final int MOST_SETS = 256;
    private static final int MOST_ACTS = 20;
    private static final int MOST_NUMBERS = 60;
    private static final int MOST_STANDS = 99;
    private static final int MOST_TALLIED = 5;
    private static final int MOST_TALLY = 20;
    private static final int MOST_MORNINGS = 20;
    private static final int MOST_SEED = 2000000000;
    private static final int SLOTS = 4;
    private static final int WIDTHS = 4;
    private static final int IMAGES = 3;
    private static final int LAWS = 4;
    private static final int ROUND_LAW = 3;
    private static final int PARKED_GAIN = 10;
    private static final int SECOND_FENCE = 10;
    private static final int TEN = 10;

    private static final int[] FACTORIALS = {1, 1, 2, 6, 24, 120, 720, 5040, 40320};

    /** LAWFUL rows of n by their STEPS, n from 1, eleven numbers each; none of five CARS makes more than 10. */
    private static final int[] ROWS_BY_STEPS = {
        1, 0, 0, 0, 0, 0, 0, 0, 0, 0, 0,
        2, 1, 0, 0, 0, 0, 0, 0, 0, 0, 0,
        6, 6, 3, 1, 0, 0, 0, 0, 0, 0, 0,
        24, 36, 30, 20, 10, 4, 1, 0, 0, 0, 0,
        120, 240, 270, 240, 180, 120, 70, 35, 15, 5, 1};
    private static final int TALLY_WIDTH = 11;

    private final Tape tape;
    private final Reader reader;
    private final Street street;
    private final Street[] images;
    private final boolean[] kept;
    private final Slot[] slots;
    private final Lot lot;
    private final Tree tree;
    private final Blocks blocks;
    private final SetTable sets;
    private final int[] trial;
    /** Where each CAR is, by the place that the doubtful CAR wants (less 1) times 8 and the CAR. */
    private final int[] outcomes;

    public ParkingTrees() {
        tape = new Tape();
        reader = new Reader(tape);
        street = new Street();
        images = new Street[IMAGES];
        for (int k = 0; k < IMAGES; k++) {
            images[k] = new Street();
        }
        kept = new boolean[IMAGES];
        slots = new Slot[SLOTS];
        for (int slot = 0; slot < SLOTS; slot++) {
            slots[slot] = new Slot();
        }
        lot = new Lot();
        tree = new Tree();
        blocks = new Blocks();
        sets = new SetTable();
        trial = new int[MOST_PLACES];
        outcomes = new int[MOST_PLACES * MOST_PLACES];
    }

    // ---- the TAPE and the STREET

    public int feed(int a, int b, int c, int d, int e) {
        if (tape.length > MOST_BYTES - 20) {
            return NONE;
        }
        tape.add(a);
        tape.add(b);
        tape.add(c);
        tape.add(d);
        tape.add(e);
        return tape.length;
    }

    public int end(int n) {
        if (n < 0 || n > tape.length) {
            return NONE;
        }
        tape.length = n;
        return n;
    }

    public int street() {
        reader.readTape();
        tape.length = 0;
        if (reader.faultKind != 0) {
            return FAULTY;
        }
        street.take(reader.draft);
        return street.lines;
    }

    public int fault(int what) {
        if (what == 0) {
            return reader.faultKind;
        }
        return what == 1 ? reader.faultPlace : NONE;
    }

    public int car(int car, int what) {
        if (!hasCar(car) || !isTerm(what)) {
            return MISSING;
        }
        return what == 0 ? street.now[car] : street.stands[car];
    }

    // ---- who parks where

    public int place(int car) {
        if (!hasCar(car)) {
            return MISSING;
        }
        parkAll();
        return lot.spots[car] == 0 ? NONE : lot.spots[car];
    }

    public int steps(int car) {
        if (!hasCar(car)) {
            return MISSING;
        }
        parkAll();
        return lot.spots[car] == 0 ? NONE : stepsInLot(car);
    }

    public int lost() {
        if (!hasStreet()) {
            return MISSING;
        }
        parkAll();
        return lot.missed;
    }

    public int free() {
        if (!hasStreet()) {
            return MISSING;
        }
        parkAll();
        return (1 << street.places) - 1 & ~lot.taken;
    }

    public int holder(int place) {
        if (!hasPlace(place)) {
            return MISSING;
        }
        parkAll();
        for (int car = 0; car < street.cars; car++) {
            if (lot.spots[car] == place) {
                return car;
            }
        }
        return NONE;
    }

    public int lucky() {
        if (!hasStreet()) {
            return MISSING;
        }
        parkAll();
        int bits = 0;
        for (int car = 0; car < street.cars; car++) {
            if (lot.spots[car] == street.now[car]) {
                bits |= 1 << car;
            }
        }
        return bits;
    }

    public int sum() {
        if (!hasStreet()) {
            return MISSING;
        }
        parkAll();
        return lot.walked;
    }

    public int worst() {
        if (!hasStreet()) {
            return MISSING;
        }
        parkAll();
        int worst = NONE;
        int most = -1;
        for (int car = 0; car < street.cars; car++) {
            if (lot.spots[car] != 0 && stepsInLot(car) > most) {
                most = stepsInLot(car);
                worst = car;
            }
        }
        return worst;
    }

    public int runs() {
        if (!hasStreet()) {
            return MISSING;
        }
        parkAll();
        // a run begins at each place taken whose lower neighbour is not
        return Integer.bitCount(lot.taken & ~(lot.taken << 1));
    }

    // ---- lawful rows

    public int sorted(int k) {
        if (!hasStreet() || k < 0) {
            return MISSING;
        }
        for (int place = 1; place <= street.places; place++) {
            if (wishesUpTo(place) > k) {
                return place;
            }
        }
        return NONE;
    }

    public int lawful() {
        if (!hasStreet()) {
            return MISSING;
        }
        return isLawful() ? 1 : 0;
    }

    public int prime() {
        if (!hasStreet()) {
            return MISSING;
        }
        if (!isLawful()) {
            return 0;
        }
        for (int k = 1; k < street.places; k++) {
            if (wishesUpTo(k) <= k) {
                return 0;
            }
        }
        return 1;
    }

    public int breaks() {
        int refusal = rowRefusal(hasStreet());
        if (refusal != 0) {
            return refusal;
        }
        int found = 0;
        for (int k = 1; k <= street.places; k++) {
            if (wishesUpTo(k) == k) {
                found++;
            }
        }
        return found;
    }

    public int likes() {
        if (!hasStreet()) {
            return MISSING;
        }
        park(street.now, 0);
        int product = 1;
        int taken = 0;
        for (int car = 0; car < street.cars; car++) {
            int spot = lot.spots[car];
            if (spot == 0) {
                product *= takenUpTo(taken, street.places);
            } else {
                product *= 1 + takenUpTo(taken, spot - 1);
                taken |= placeBit(spot);
            }
        }
        return product;
    }

    // ---- the RING

    public int ring(int car) {
        if (!hasCar(car)) {
            return MISSING;
        }
        parkOnRing();
        return lot.spots[car];
    }

    public int hole() {
        if (!hasStreet()) {
            return MISSING;
        }
        parkOnRing();
        return Lot.firstFree(street.places + 1, lot.taken, 1);
    }

    public int shifts() {
        if (!hasStreet()) {
            return MISSING;
        }
        parkOnRing();
        int bits = 0;
        for (int shift = 0; shift <= street.places; shift++) {
            // a shift turns the whole RING: the place that far ahead of the last one comes to be the last
            if (Lot.isFree(lot.taken, street.places + 1 - shift)) {
                bits |= 1 << shift;
            }
        }
        return bits;
    }

    public int shifted(int car, int shift) {
        if (!hasCar(car) || shift < 0 || shift > street.places) {
            return MISSING;
        }
        int round = street.places + 1;
        int place = street.now[car] + shift;
        return place > round ? place - round : place;
    }

    // ---- the TREE that hangs by wishes

    public int parent(int car) {
        int refusal = hangTree(hasCar(car));
        return refusal != 0 ? refusal : tree.parents[car + 1];
    }

    public int depth(int car) {
        int refusal = hangTree(hasCar(car));
        return refusal != 0 ? refusal : tree.limbsTo(car + 1);
    }

    public int kids(int node) {
        int refusal = hangTree(hasStreet() && node >= 0 && node <= street.cars);
        return refusal != 0 ? refusal : tree.hangingFrom(node);
    }

    public int queue(int i) {
        int refusal = hangTree(hasStreet() && i >= 0 && i <= street.places);
        return refusal != 0 ? refusal : tree.order[i];
    }

    public int leaves() {
        int refusal = hangTree(hasStreet());
        if (refusal != 0) {
            return refusal;
        }
        int bits = 0;
        for (int car = 0; car < street.cars; car++) {
            if (tree.hangingFrom(car + 1) == 0) {
                bits |= 1 << car;
            }
        }
        return bits;
    }

    public int inversions() {
        int refusal = hangTree(hasStreet());
        return refusal != 0 ? refusal : tree.turnedPairs();
    }

    public int code(int i) {
        int refusal = hangTree(hasStreet() && i >= 0);
        if (refusal != 0) {
            return refusal;
        }
        return i < street.places - 1 ? tree.codeNumber(i) : NONE;
    }

    // ---- the SEARCH

    public int burnt(int car) {
        int refusal = searchTree(hasCar(car));
        return refusal != 0 ? refusal : tree.parents[car + 1];
    }

    public int turned() {
        int refusal = searchTree(hasStreet());
        return refusal != 0 ? refusal : tree.turnedPairs();
    }

    public int visit(int i) {
        int refusal = searchTree(hasStreet() && i >= 0 && i <= street.places);
        return refusal != 0 ? refusal : tree.order[i];
    }

    // ---- trees from a CODE

    public int above(int slot, int car) {
        int refusal = readCode(slot, isTreeCar(car));
        return refusal != 0 ? refusal : tree.parents[car + 1];
    }

    public int wish(int slot, int car) {
        int refusal = readCode(slot, isTreeCar(car));
        return refusal != 0 ? refusal : tree.wishByOrder(car + 1);
    }

    public int regain(int slot, int car) {
        int refusal = readCode(slot, isTreeCar(car));
        if (refusal != 0) {
            return refusal;
        }
        tree.regainGrains();
        return tree.grains[car + 1] + 1;
    }

    public int upset(int slot) {
        int refusal = readCode(slot, hasStreet());
        return refusal != 0 ? refusal : tree.turnedPairs();
    }

    // ---- tallies

    public int rows(int n) {
        return isTallied(n) ? lawfulRows(n) : MISSING;
    }

    public int moved(int n, int k) {
        return tally(n, k);
    }

    public int trees(int n, int k) {
        // SEARCH matches rows with trees and STEPS with TURNED pairs, so both tallies are one
        return tally(n, k);
    }

    public int ends(int n, int p) {
        if (!isTallied(n) || p < 1 || p > n) {
            return MISSING;
        }
        // those ahead of the last fill the places on both sides of p, and it wants p or one of those below
        int sharings = FACTORIALS[n - 1] / (FACTORIALS[p - 1] * FACTORIALS[n - p]);
        return sharings * lawfulRows(p - 1) * lawfulRows(n - p) * p;
    }

    // ---- BLOCKS

    public int label(int i) {
        if (i < 0 || i >= street.joins) {
            return MISSING;
        }
        joinFirst(i);
        return blocks.labelOf(street.joinOnes[i], street.joinOthers[i]);
    }

    public int merged(int i) {
        if (i < 0 || i >= street.joins) {
            return MISSING;
        }
        joinFirst(i + 1);
        return blocks.masks[street.joinOnes[i]];
    }

    public int blocks() {
        if (!hasStreet()) {
            return MISSING;
        }
        // each JOIN makes one BLOCK of two
        return street.places + 1 - street.joins;
    }

    public int block(int number) {
        if (!hasNumber(number)) {
            return MISSING;
        }
        joinFirst(street.joins);
        return blocks.masks[number];
    }

    public int next() {
        if (!hasStreet()) {
            return MISSING;
        }
        joinFirst(street.joins);
        int pairs = 0;
        for (int one = 1; one <= street.places; one++) {
            for (int other = one + 1; other <= street.places + 1; other++) {
                if (blocks.isLeast(one) && blocks.isLeast(other) && blocks.joinable(one, other)) {
                    pairs++;
                }
            }
        }
        return pairs;
    }

    public int may(int a, int b) {
        if (!hasNumber(a) || !hasNumber(b)) {
            return MISSING;
        }
        joinFirst(street.joins);
        return blocks.joinable(a, b) ? 1 : 0;
    }

    public int labels(int a, int b) {
        if (!hasNumber(a) || !hasNumber(b)) {
            return MISSING;
        }
        joinFirst(street.joins);
        return blocks.joinable(a, b) ? blocks.labelOf(a, b) : NONE;
    }

    public int chain() {
        if (!hasStreet()) {
            return MISSING;
        }
        if (street.joins != street.places) {
            return 0;
        }
        blocks.start(street.places + 1);
        for (int i = 0; i < street.joins; i++) {
            trial[i] = blocks.labelOf(street.joinOnes[i], street.joinOthers[i]);
            blocks.join(street.joinOnes[i], street.joinOthers[i]);
        }
        lot.fill(trial, street.joins, (1 << street.joins) - 1, street.places, 0);
        return lot.missed == 0 ? 1 : 0;
    }

    // ---- REGION and FENCES

    public int region(int car) {
        if (!hasCar(car)) {
            return MISSING;
        }
        int region = 1;
        for (int other = 0; other < street.cars; other++) {
            if (other > car && crossesFirst(car, other) || other < car && crossesSecond(other, car)) {
                region++;
            }
        }
        return region;
    }

    public int across(int car, int other) {
        if (!hasPair(car, other)) {
            return MISSING;
        }
        return crossed(Math.min(car, other), Math.max(car, other));
    }

    public int fences() {
        if (!hasStreet()) {
            return MISSING;
        }
        int found = 0;
        for (int i = 0; i < street.cars; i++) {
            for (int j = i + 1; j < street.cars; j++) {
                found += crossed(i, j);
            }
        }
        return found;
    }

    public int far() {
        if (!hasStreet()) {
            return MISSING;
        }
        int farthest = NONE;
        int most = -1;
        for (int car = 0; car < street.cars; car++) {
            if (street.stands[car] > most) {
                most = street.stands[car];
                farthest = car;
            }
        }
        return farthest;
    }

    public int astride() {
        if (!hasStreet()) {
            return MISSING;
        }
        int found = 0;
        for (int i = 0; i < street.cars; i++) {
            for (int j = i + 1; j < street.cars; j++) {
                int ahead = street.stands[i] - street.stands[j];
                if (ahead == 0 || ahead == SECOND_FENCE) {
                    found++;
                }
            }
        }
        return found;
    }

    // ---- wishes to mend, CARS to swap or to blame

    public int mend() {
        if (!hasStreet()) {
            return MISSING;
        }
        parkAll();
        int fewest = Integer.bitCount(lot.missed);
        int best = NONE;
        for (int car = 0; car < street.cars; car++) {
            for (int place = 1; place <= street.places; place++) {
                parkWith(car, place);
                if (Integer.bitCount(lot.missed) < fewest) {
                    fewest = Integer.bitCount(lot.missed);
                    best = 10 * car + place;
                }
            }
        }
        return best;
    }

    public int swap() {
        if (!hasStreet()) {
            return MISSING;
        }
        parkAll();
        int lostNow = Integer.bitCount(lot.missed);
        int fewest = lot.walked;
        int best = NONE;
        for (int one = 0; one < street.cars; one++) {
            for (int other = one + 1; other < street.cars; other++) {
                tryWishes();
                trial[one] = street.now[other];
                trial[other] = street.now[one];
                park(trial, street.law);
                if (Integer.bitCount(lot.missed) <= lostNow && lot.walked < fewest) {
                    fewest = lot.walked;
                    best = 10 * one + other;
                }
            }
        }
        return best;
    }

    public int blame() {
        if (!hasStreet()) {
            return MISSING;
        }
        int fewest = 0;
        int best = NONE;
        for (int car = 0; car < street.cars; car++) {
            parkAll();
            int others = lot.walked - (lot.spots[car] == 0 ? 0 : stepsInLot(car));
            parkSet(everyCar() & ~(1 << car));
            if (lot.walked < others && (best == NONE || lot.walked < fewest)) {
                fewest = lot.walked;
                best = car;
            }
        }
        return best;
    }

    // ---- what a CAR wanted by where CARS were SEEN

    public int fits(int slot, int car) {
        int refusal = sightRefusal(slot, hasCar(car));
        return refusal != 0 ? refusal : fitting(slots[slot], car);
    }

    public int ask(int slot, int car) {
        int refusal = sightRefusal(slot, hasCar(car));
        if (refusal != 0) {
            return refusal;
        }
        int wishes = fitting(slots[slot], car);
        int fewest = Integer.bitCount(wishes);
        int best = NONE;
        for (int asked = 0; asked < street.cars; asked++) {
            int left = leftAtWorst(wishes, asked);
            if (left < fewest) {
                fewest = left;
                best = asked;
            }
        }
        return best;
    }

    public int remain(int slot, int car) {
        int refusal = sightRefusal(slot, hasCar(car));
        if (refusal != 0) {
            return refusal;
        }
        int wishes = fitting(slots[slot], car);
        int fewest = Integer.bitCount(wishes);
        for (int asked = 0; asked < street.cars; asked++) {
            fewest = Math.min(fewest, leftAtWorst(wishes, asked));
        }
        return fewest;
    }

    public int laws(int slot) {
        int refusal = sightRefusal(slot, hasStreet());
        if (refusal != 0) {
            return refusal;
        }
        int bits = 0;
        for (int law = 0; law < LAWS; law++) {
            park(street.now, law);
            if (isAsSeen(slots[slot])) {
                bits |= 1 << law;
            }
        }
        return bits;
    }

    public int by(int law) {
        if (!hasStreet() || law < 0 || law >= LAWS) {
            return MISSING;
        }
        park(street.now, law);
        return lot.walked;
    }

    public int law() {
        if (!hasStreet()) {
            return MISSING;
        }
        park(street.now, 0);
        int best = 0;
        int fewestLost = Integer.bitCount(lot.missed);
        int fewestSteps = lot.walked;
        for (int law = 1; law < LAWS; law++) {
            park(street.now, law);
            int lostCars = Integer.bitCount(lot.missed);
            if (lostCars < fewestLost || lostCars == fewestLost && lot.walked < fewestSteps) {
                best = law;
                fewestLost = lostCars;
                fewestSteps = lot.walked;
            }
        }
        return best;
    }

    // ---- shares, and two that may want less

    public int worth(int set) {
        if (!hasStreet() || set < 0 || set > everyCar()) {
            return MISSING;
        }
        parkSet(set);
        return lot.walked;
    }

    public int share(int car, int what) {
        if (!hasCar(car) || !isTerm(what)) {
            return NO_SHARE;
        }
        sets.fill(street.now, street.cars, street.places, street.law);
        long above = 0;
        for (int set = 0; set <= everyCar(); set++) {
            if ((set >> car & 1) == 0) {
                int earlier = Integer.bitCount(set);
                long orders = (long) FACTORIALS[earlier] * FACTORIALS[street.cars - 1 - earlier];
                above += orders * (sets.walked[set | 1 << car] - sets.walked[set]);
            }
        }
        return (int) term(above, FACTORIALS[street.cars], what);
    }

    public int rests(int car, int other) {
        if (!hasPair(car, other)) {
            return MISSING;
        }
        int bits = 0;
        for (int choices = 0; choices < 4; choices++) {
            int less = choices & 1;
            int otherLess = choices >> 1;
            boolean carRests = gain(car, other, less, otherLess) >= gain(car, other, 1 - less, otherLess);
            boolean otherRests = gain(other, car, otherLess, less) >= gain(other, car, 1 - otherLess, less);
            if (carRests && otherRests) {
                bits |= 1 << choices;
            }
        }
        return bits;
    }

    public int gets(int car, int other, int less, int otherLess) {
        if (!hasPair(car, other) || !isTerm(less) || !isTerm(otherLess)) {
            return NO_GAIN;
        }
        return gain(car, other, less, otherLess);
    }

    // ---- CHANCE

    public int chance(int car, int what) {
        if (!hasCar(car) || !isTerm(what)) {
            return MISSING;
        }
        sets.fill(street.now, street.cars, street.places, street.law);
        long above = 0;
        // those behind the CAR can't take its place, so only sets of those ahead of it count
        for (int set = 0; set < 1 << car; set++) {
            if (Lot.isFree(sets.taken[set], street.now[car])) {
                above += setWeight(set, car) * street.odds;
            }
        }
        return (int) term(above, power(TEN, car + 1), what);
    }

    public long mean(int what) {
        if (!hasStreet() || !isTerm(what)) {
            return MISSING;
        }
        sets.fill(street.now, street.cars, street.places, street.law);
        long above = 0;
        for (int set = 0; set <= everyCar(); set++) {
            above += setWeight(set, street.cars) * sets.walked[set];
        }
        return term(above, power(TEN, street.cars), what);
    }

    // ---- acts

    public int wants(int car, int place) {
        if (!hasCar(car) || !hasPlace(place)) {
            return MISSING;
        }
        return actAndCountLost(car, place, false);
    }

    public int trades(int car, int other) {
        if (!hasPair(car, other)) {
            return MISSING;
        }
        return actAndCountLost(car, other, true);
    }

    public int undo() {
        if (!hasStreet()) {
            return MISSING;
        }
        if (street.acts == 0) {
            return REFUSED;
        }
        street.keepActs(street.acts - 1);
        return street.acts;
    }

    public int anew() {
        if (!hasStreet()) {
            return MISSING;
        }
        int before = street.acts;
        street.keepActs(0);
        return before;
    }

    // ---- mornings drawn

    public int drawn(int seed, int what) {
        if (!hasStreet() || !isSeed(seed) || !isTerm(what)) {
            return MISSING;
        }
        int coming = drawSet(seed);
        if (what == 0) {
            return coming;
        }
        parkSet(coming);
        return lot.walked;
    }

    public int luck(int seed, int n, int car) {
        if (!hasCar(car) || !isSeed(seed) || n < 1 || n > MOST_MORNINGS) {
            return MISSING;
        }
        int mornings = 0;
        for (int i = 0; i < n; i++) {
            parkSet(drawSet(seed + i));
            if (lot.spots[car] != 0) {
                mornings++;
            }
        }
        return mornings;
    }

    public int rate(int car, int n) {
        if (!hasCar(car) || n < 0 || n > MOST_STANDS) {
            return MISSING;
        }
        if (street.acts != 0) {
            return REFUSED;
        }
        int before = street.stands[car];
        street.stands[car] = n;
        return before;
    }

    // ---- counts and IMAGES

    public int count(int what) {
        switch (what) {
            case 0: return street.places;
            case 1: return street.law;
            case 2: return street.odds;
            case 3: return street.cars;
            case 4: return street.joins;
            case 5: return street.acts;
            case 6: return street.lines;
            case 7: return tape.length;
            case 8: return slotsWithRows();
            default: return NONE;
        }
    }

    public int image(int k) {
        if (k < 0 || k >= IMAGES) {
            return MISSING;
        }
        images[k].take(street);
        kept[k] = true;
        return 0;
    }

    public int back(int k) {
        if (k < 0 || k >= IMAGES) {
            return MISSING;
        }
        if (!kept[k]) {
            return EMPTY;
        }
        street.take(images[k]);
        return 0;
    }

    // ---- SLOTS

    public int row(int slot, int width, int n) {
        if (!isSlot(slot) || width < 0 || width >= WIDTHS || n > MOST_NUMBERS) {
            return MISSING;
        }
        if (n < 0) {
            return NEGATIVE;
        }
        slots[slot].begin(width, n);
        return 0;
    }

    public int write(int slot, int i, long v) {
        if (!isSlot(slot)) {
            return MISSING;
        }
        Slot target = slots[slot];
        if (!target.filled) {
            return EMPTY;
        }
        if (i < 0 || i >= target.length) {
            return BEYOND;
        }
        target.numbers[i] = cut(v, target.width);
        return 0;
    }

    public int paste(int slot, int i, int to, int k, int n) {
        if (!isSlot(slot) || !isSlot(to)) {
            return MISSING;
        }
        Slot source = slots[slot];
        Slot target = slots[to];
        if (!source.filled || !target.filled) {
            return EMPTY;
        }
        if (source.width != target.width) {
            return UNLIKE;
        }
        if (!source.holds(i, n) || !target.holds(k, n)) {
            return BEYOND;
        }
        System.arraycopy(source.numbers, i, target.numbers, k, n);
        return 0;
    }

    // ---- what is there

    private boolean hasStreet() {
        return street.places > 0;
    }

    private boolean hasCar(int car) {
        return car >= 0 && car < street.cars;
    }

    private boolean hasPair(int car, int other) {
        return hasCar(car) && hasCar(other) && car != other;
    }

    private boolean hasPlace(int place) {
        return place >= 1 && place <= street.places;
    }

    private boolean hasNumber(int number) {
        return hasStreet() && number >= 1 && number <= street.places + 1;
    }

    /** A tree from a CODE has a CAR for each place, told or not. */
    private boolean isTreeCar(int car) {
        return car >= 0 && car < street.places;
    }

    private boolean isTallied(int n) {
        return hasStreet() && n >= 1 && n <= MOST_TALLIED;
    }

    private static boolean isTerm(int what) {
        return what == 0 || what == 1;
    }

    private static boolean isSeed(int seed) {
        return seed >= 0 && seed <= MOST_SEED;
    }

    private static boolean isSlot(int slot) {
        return slot >= 0 && slot < SLOTS;
    }

    private int slotsWithRows() {
        int found = 0;
        for (int slot = 0; slot < SLOTS; slot++) {
            if (slots[slot].filled) {
                found++;
            }
        }
        return found;
    }

    // ---- parking

    private int everyCar() {
        return (1 << street.cars) - 1;
    }

    private void park(int[] wishes, int law) {
        lot.fill(wishes, street.cars, everyCar(), street.places, law);
    }

    private void parkAll() {
        lot.fill(street.now, street.cars, everyCar(), street.places, street.law);
    }

    private void parkSet(int set) {
        lot.fill(street.now, street.cars, set, street.places, street.law);
    }

    private void parkWith(int car, int place) {
        tryWishes();
        trial[car] = place;
        lot.fill(trial, street.cars, everyCar(), street.places, street.law);
    }

    private void parkOnRing() {
        lot.fill(street.now, street.cars, everyCar(), street.places + 1, ROUND_LAW);
    }

    private void tryWishes() {
        for (int car = 0; car < street.cars; car++) {
            trial[car] = street.now[car];
        }
    }

    private int stepsInLot(int car) {
        return Math.abs(lot.spots[car] - street.now[car]);
    }

    private int actAndCountLost(int car, int to, boolean trade) {
        if (street.acts >= MOST_ACTS) {
            return REFUSED;
        }
        street.addAct(car, to, trade);
        parkAll();
        return Integer.bitCount(lot.missed);
    }

    private boolean isLawful() {
        if (street.cars != street.places) {
            return false;
        }
        // by LAW 0 none is LOST just if for each k at least k of the CARS want one of the first k places
        for (int k = 1; k <= street.places; k++) {
            if (wishesUpTo(k) < k) {
                return false;
            }
        }
        return true;
    }

    private int wishesUpTo(int place) {
        int found = 0;
        for (int car = 0; car < street.cars; car++) {
            if (street.now[car] <= place) {
                found++;
            }
        }
        return found;
    }

    /** How many places in a row are taken, the given one the highest of them. */
    private static int takenUpTo(int taken, int place) {
        int found = 0;
        for (int p = place; p >= 1 && !Lot.isFree(taken, p); p--) {
            found++;
        }
        return found;
    }

    private static int placeBit(int place) {
        return 1 << place - 1;
    }

    // ---- trees

    private int rowRefusal(boolean there) {
        if (!there) {
            return MISSING;
        }
        return isLawful() ? 0 : NONE;
    }

    private int hangTree(boolean there) {
        int refusal = rowRefusal(there);
        if (refusal == 0) {
            tree.hang(street.now, street.places);
        }
        return refusal;
    }

    private int searchTree(boolean there) {
        int refusal = rowRefusal(there);
        if (refusal == 0) {
            tree.search(street.now, street.places);
        }
        return refusal;
    }

    private int readCode(int slot, boolean there) {
        if (!isSlot(slot) || !there) {
            return MISSING;
        }
        Slot source = slots[slot];
        if (!source.filled) {
            return EMPTY;
        }
        if (source.length != street.places - 1) {
            return MISSING;
        }
        for (int i = 0; i < source.length; i++) {
            if (source.numbers[i] < 0 || source.numbers[i] > street.places) {
                return MISSING;
            }
        }
        tree.decode(source.numbers, street.places);
        return 0;
    }

    // ---- tallies

    private int tally(int n, int k) {
        if (!isTallied(n) || k < 0 || k > MOST_TALLY) {
            return MISSING;
        }
        return k < TALLY_WIDTH ? ROWS_BY_STEPS[(n - 1) * TALLY_WIDTH + k] : 0;
    }

    private static int lawfulRows(int n) {
        int total = 1;
        for (int i = 1; i < n; i++) {
            total *= n + 1;
        }
        return total;
    }

    // ---- BLOCKS and FENCES

    private void joinFirst(int joins) {
        blocks.start(street.places + 1);
        for (int i = 0; i < joins; i++) {
            blocks.join(street.joinOnes[i], street.joinOthers[i]);
        }
    }

    private boolean crossesFirst(int i, int j) {
        return street.stands[i] < street.stands[j];
    }

    private boolean crossesSecond(int i, int j) {
        return street.stands[i] > street.stands[j] + SECOND_FENCE;
    }

    private int crossed(int i, int j) {
        return crossesFirst(i, j) || crossesSecond(i, j) ? 1 : 0;
    }

    // ---- SEEN

    private int sightRefusal(int slot, boolean there) {
        if (!isSlot(slot) || !there) {
            return MISSING;
        }
        Slot source = slots[slot];
        if (!source.filled) {
            return EMPTY;
        }
        if (source.length % 2 != 0) {
            return MISSING;
        }
        for (int i = 0; i + 1 < source.length; i += 2) {
            boolean isCar = source.numbers[i] >= 0 && source.numbers[i] < street.cars;
            boolean isPlace = source.numbers[i + 1] >= 0 && source.numbers[i + 1] <= street.places;
            if (!isCar || !isPlace) {
                return MISSING;
            }
        }
        return 0;
    }

    private boolean isAsSeen(Slot source) {
        for (int i = 0; i + 1 < source.length; i += 2) {
            if (lot.spots[(int) source.numbers[i]] != source.numbers[i + 1]) {
                return false;
            }
        }
        return true;
    }

    private int fitting(Slot source, int car) {
        int bits = 0;
        for (int place = 1; place <= street.places; place++) {
            parkWith(car, place);
            if (isAsSeen(source)) {
                bits |= placeBit(place);
            }
            for (int other = 0; other < street.cars; other++) {
                outcomes[(place - 1) * MOST_PLACES + other] = lot.spots[other];
            }
        }
        return bits;
    }

    private int leftAtWorst(int wishes, int asked) {
        int most = 0;
        for (int place = 1; place <= street.places; place++) {
            if (!Lot.isFree(wishes, place)) {
                most = Math.max(most, likeWishes(wishes, asked, place));
            }
        }
        return most;
    }

    /** How many wishes put the asked CAR where the given wish does. */
    private int likeWishes(int wishes, int asked, int wish) {
        int like = 0;
        int spot = outcomes[(wish - 1) * MOST_PLACES + asked];
        for (int place = 1; place <= street.places; place++) {
            if (!Lot.isFree(wishes, place) && outcomes[(place - 1) * MOST_PLACES + asked] == spot) {
                like++;
            }
        }
        return like;
    }

    // ---- the game, CHANCE and DRAWS

    private int gain(int car, int other, int less, int otherLess) {
        tryWishes();
        trial[car] = Math.max(1, trial[car] - less);
        trial[other] = Math.max(1, trial[other] - otherLess);
        park(trial, street.law);
        int spot = lot.spots[car];
        return (spot == 0 ? 0 : PARKED_GAIN - Math.abs(spot - trial[car])) - less;
    }

    /** Of 10 to the number of CARS, how many times just this set of the first CARS comes. */
    private long setWeight(int set, int cars) {
        int coming = Integer.bitCount(set);
        return power(street.odds, coming) * power(TEN - street.odds, cars - coming);
    }

    private int drawSet(int seed) {
        long x = seed;
        int coming = 0;
        for (int car = 0; car < street.cars; car++) {
            x = 1103515245L * x + 12345L & 0x7fffffffL;
            if (x / 65536L % TEN < street.odds) {
                coming |= 1 << car;
            }
        }
        return coming;
    }

    private static long power(int base, int exponent) {
        long product = 1;
        for (int i = 0; i < exponent; i++) {
            product *= base;
        }
        return product;
    }

    /** The upper (0) or lower (1) number of a FRACTION in lowest terms. */
    private static long term(long above, long below, int what) {
        long divisor = Math.abs(above);
        long rest = below;
        for (int turn = 0; turn < 100 && rest != 0; turn++) {
            long left = divisor % rest;
            divisor = rest;
            rest = left;
        }
        if (divisor == 0) {
            return what == 0 ? 0 : 1;
        }
        return what == 0 ? above / divisor : below / divisor;
    }

    private static long cut(long v, int width) {
        switch (width) {
            case 0: return (byte) v;
            case 1: return (short) v;
            case 2: return (int) v;
            default: return v;
        }
    }

    // ---- parts

    private static final class Tape {
        final byte[] bytes;
        int length;

        Tape() {
            bytes = new byte[MOST_BYTES];
        }

        void add(int four) {
            for (int shift = 24; shift >= 0 && length < MOST_BYTES; shift -= 8) {
                bytes[length] = (byte) (four >> shift);
                length++;
            }
        }
    }

    /** A STREET and its acts; without places there is none. */
    private static final class Street {
        int places;
        int law;
        int odds;
        int lines;
        int cars;
        int joins;
        int acts;
        final int[] told;
        final int[] now;
        final int[] stands;
        final int[] joinOnes;
        final int[] joinOthers;
        final int[] actCars;
        final int[] actGoals;
        final boolean[] actTrades;

        Street() {
            told = new int[MOST_PLACES];
            now = new int[MOST_PLACES];
            stands = new int[MOST_PLACES];
            joinOnes = new int[MOST_PLACES];
            joinOthers = new int[MOST_PLACES];
            actCars = new int[MOST_ACTS];
            actGoals = new int[MOST_ACTS];
            actTrades = new boolean[MOST_ACTS];
        }

        void clear() {
            places = 0;
            law = 0;
            odds = 0;
            lines = 0;
            cars = 0;
            joins = 0;
            acts = 0;
        }

        void take(Street from) {
            places = from.places;
            law = from.law;
            odds = from.odds;
            lines = from.lines;
            cars = from.cars;
            joins = from.joins;
            acts = from.acts;
            for (int i = 0; i < MOST_PLACES; i++) {
                told[i] = from.told[i];
                now[i] = from.now[i];
                stands[i] = from.stands[i];
                joinOnes[i] = from.joinOnes[i];
                joinOthers[i] = from.joinOthers[i];
            }
            for (int i = 0; i < MOST_ACTS; i++) {
                actCars[i] = from.actCars[i];
                actGoals[i] = from.actGoals[i];
                actTrades[i] = from.actTrades[i];
            }
        }

        void addCar(int wish, int stand) {
            if (cars < MOST_PLACES) {
                told[cars] = wish;
                now[cars] = wish;
                stands[cars] = stand;
                cars++;
            }
        }

        void addJoin(int one, int other) {
            if (joins < MOST_PLACES) {
                joinOnes[joins] = one;
                joinOthers[joins] = other;
                joins++;
            }
        }

        void addAct(int car, int goal, boolean trade) {
            if (acts < MOST_ACTS) {
                actCars[acts] = car;
                actGoals[acts] = goal;
                actTrades[acts] = trade;
                doAct(acts);
                acts++;
            }
        }

        /** The first so many acts stay; wishes come from those told, since an act keeps not what it changed. */
        void keepActs(int left) {
            acts = left;
            for (int car = 0; car < cars; car++) {
                now[car] = told[car];
            }
            for (int i = 0; i < acts; i++) {
                doAct(i);
            }
        }

        private void doAct(int i) {
            int car = actCars[i];
            int goal = actGoals[i];
            if (actTrades[i]) {
                int wish = now[car];
                now[car] = now[goal];
                now[goal] = wish;
            } else {
                now[car] = goal;
            }
        }
    }

    /** Reads the TAPE into a draft, so that a FAULT leaves the STREET alone. */
    private static final class Reader {
        private static final int END = 0;
        private static final int WORD = 1;
        private static final int NUMBER = 2;
        private static final int SEMICOLON = 3;
        private static final int STRANGE = 4;
        /** More than any bound, so that long rows of digits can't overflow. */
        private static final int TOO_MUCH = 1000;

        final Street draft;
        int faultKind;
        int faultPlace;
        private final Tape tape;
        private final Blocks joined;
        private int kind;
        private int start;
        private int stop;
        private int value;
        private int number;

        Reader(Tape tape) {
            this.tape = tape;
            draft = new Street();
            joined = new Blocks();
            faultPlace = NONE;
        }

        void readTape() {
            draft.clear();
            faultKind = 0;
            faultPlace = NONE;
            stop = 0;
            readToken();
            for (int line = 0; line < MOST_BYTES && kind != END && faultKind == 0; line++) {
                if (readLine() && takeSemicolon()) {
                    draft.lines++;
                }
            }
        }

        private boolean readLine() {
            if (draft.lines == 0) {
                return readHead();
            }
            if (isWord("car")) {
                return readCar();
            }
            return readJoin();
        }

        private boolean readHead() {
            if (!takeWord("street") || !takeWord("places") || !takeNumber(1, MOST_PLACES)) {
                return false;
            }
            draft.places = number;
            if (!takeWord("law") || !takeNumber(0, LAWS - 1)) {
                return false;
            }
            draft.law = number;
            if (!takeWord("odds") || !takeNumber(0, TEN)) {
                return false;
            }
            draft.odds = number;
            joined.start(draft.places + 1);
            return true;
        }

        private boolean readCar() {
            if (draft.cars >= draft.places) {
                return refuse(3);
            }
            if (!takeWord("car") || !takeWord("wants") || !takeNumber(1, draft.places)) {
                return false;
            }
            int wish = number;
            if (!takeWord("stands") || !takeNumber(0, MOST_STANDS)) {
                return false;
            }
            draft.addCar(wish, number);
            return true;
        }

        private boolean readJoin() {
            if (!takeWord("join") || !takeNumber(1, draft.places + 1)) {
                return false;
            }
            int one = number;
            if (kind == NUMBER && !joined.joinable(one, value)) {
                return refuse(2);
            }
            if (!takeNumber(1, draft.places + 1)) {
                return false;
            }
            joined.join(one, number);
            draft.addJoin(one, number);
            return true;
        }

        private boolean refuse(int fault) {
            faultKind = fault;
            faultPlace = start;
            return false;
        }

        private boolean takeWord(String word) {
            if (!isWord(word)) {
                return refuse(1);
            }
            readToken();
            return true;
        }

        private boolean takeNumber(int least, int most) {
            if (kind != NUMBER) {
                return refuse(1);
            }
            if (value < least || value > most) {
                return refuse(2);
            }
            number = value;
            readToken();
            return true;
        }

        private boolean takeSemicolon() {
            if (kind != SEMICOLON) {
                return refuse(1);
            }
            readToken();
            return true;
        }

        private boolean isWord(String word) {
            if (kind != WORD || stop - start != word.length()) {
                return false;
            }
            for (int i = 0; i < word.length(); i++) {
                if (tape.bytes[start + i] != word.charAt(i)) {
                    return false;
                }
            }
            return true;
        }

        private void readToken() {
            while (stop < tape.length && (tape.bytes[stop] == 32 || tape.bytes[stop] == 10)) {
                stop++;
            }
            start = stop;
            if (start >= tape.length) {
                kind = END;
            } else if (isLetter(tape.bytes[start])) {
                readLetters();
            } else if (isDigit(tape.bytes[start])) {
                readDigits();
            } else {
                kind = tape.bytes[start] == ';' ? SEMICOLON : STRANGE;
                stop++;
            }
        }

        private void readLetters() {
            kind = WORD;
            while (stop < tape.length && isLetter(tape.bytes[stop])) {
                stop++;
            }
        }

        private void readDigits() {
            kind = NUMBER;
            value = 0;
            while (stop < tape.length && isDigit(tape.bytes[stop])) {
                if (value < TOO_MUCH) {
                    value = 10 * value + tape.bytes[stop] - '0';
                }
                stop++;
            }
        }

        private static boolean isLetter(byte sign) {
            return sign >= 'a' && sign <= 'z';
        }

        private static boolean isDigit(byte sign) {
            return sign >= '0' && sign <= '9';
        }
    }

    /** Where CARS are once those of a set have come; place 0 is none. */
    private static final class Lot {
        final int[] spots;
        int taken;
        int missed;
        int walked;

        Lot() {
            spots = new int[MOST_PLACES];
        }

        void fill(int[] wishes, int cars, int set, int places, int law) {
            taken = 0;
            missed = 0;
            walked = 0;
            for (int car = 0; car < cars; car++) {
                spots[car] = 0;
                if ((set >> car & 1) != 0) {
                    come(car, wishes[car], spotFor(law, places, taken, wishes[car]));
                }
            }
        }

        private void come(int car, int wish, int spot) {
            spots[car] = spot;
            if (spot == 0) {
                missed |= 1 << car;
            } else {
                taken |= placeBit(spot);
                walked += Math.abs(spot - wish);
            }
        }

        static int spotFor(int law, int places, int taken, int wish) {
            if (isFree(taken, wish)) {
                return wish;
            }
            if (law == 1 && wish > 1 && isFree(taken, wish - 1)) {
                return wish - 1;
            }
            if (law == 2) {
                return nearestFree(places, taken, wish);
            }
            int spot = firstFree(places, taken, wish + 1);
            return spot == 0 && law == ROUND_LAW ? firstFree(places, taken, 1) : spot;
        }

        static boolean isFree(int taken, int place) {
            return (taken >> place - 1 & 1) == 0;
        }

        static int firstFree(int places, int taken, int from) {
            for (int place = from; place <= places; place++) {
                if (isFree(taken, place)) {
                    return place;
                }
            }
            return 0;
        }

        private static int nearestFree(int places, int taken, int wish) {
            for (int way = 1; way < places; way++) {
                if (wish + way <= places && isFree(taken, wish + way)) {
                    return wish + way;
                }
                if (wish - way >= 1 && isFree(taken, wish - way)) {
                    return wish - way;
                }
            }
            return 0;
        }
    }

    /** What places are taken and how many STEPS are made, for each set of CARS that comes alone. */
    private static final class SetTable {
        final int[] taken;
        final int[] walked;

        SetTable() {
            taken = new int[MOST_SETS];
            walked = new int[MOST_SETS];
        }

        /** Each set is a lesser one to which its last CAR comes, so one step finds it. */
        void fill(int[] wishes, int cars, int places, int law) {
            taken[0] = 0;
            walked[0] = 0;
            for (int car = 0; car < cars; car++) {
                for (int set = 0; set < 1 << car; set++) {
                    int spot = Lot.spotFor(law, places, taken[set], wishes[car]);
                    int grown = set | 1 << car;
                    taken[grown] = spot == 0 ? taken[set] : taken[set] | placeBit(spot);
                    walked[grown] = walked[set] + (spot == 0 ? 0 : Math.abs(spot - wishes[car]));
                }
            }
        }
    }

    /** A tree of NODES that hangs from NODE 0, and the order in which they came. */
    private static final class Tree {
        final int[] parents;
        final int[] order;
        final int[] grains;
        /** NODES at the other ends of a NODE's limbs, as bits. */
        private final int[] near;
        private final int[] unlooked;
        private int nodes;
        private int came;

        Tree() {
            parents = new int[MOST_NODES];
            order = new int[MOST_NODES];
            grains = new int[MOST_NODES];
            near = new int[MOST_NODES];
            unlooked = new int[MOST_NODES];
        }

        private void begin(int cars) {
            nodes = cars + 1;
            came = 1;
            order[0] = 0;
        }

        private void bring(int node, int from) {
            if (came < nodes) {
                parents[node] = from;
                order[came] = node;
                came++;
            }
        }

        void hang(int[] wishes, int cars) {
            begin(cars);
            for (int place = 1; place <= cars; place++) {
                int from = order[place - 1];
                for (int car = 0; car < cars; car++) {
                    if (wishes[car] == place) {
                        bring(car + 1, from);
                    }
                }
            }
        }

        void search(int[] wishes, int cars) {
            begin(cars);
            for (int node = 1; node < nodes; node++) {
                grains[node] = wishes[node - 1] - 1;
            }
            walk(false);
        }

        /** SEARCH is led by the tree that is known, and each CAR left aside gives back the grain it lost. */
        void regainGrains() {
            begin(nodes - 1);
            for (int node = 1; node < nodes; node++) {
                grains[node] = 0;
            }
            walk(true);
        }

        private void walk(boolean byTree) {
            int unmet = 0;
            for (int node = 0; node < nodes; node++) {
                unlooked[node] = nodes - 1;
                unmet |= 1 << node;
            }
            int node = 0;
            // each NODE looks at each once and is left once
            int most = nodes * nodes;
            for (int turn = 0; turn < most; turn++) {
                int looked = unlooked[node];
                if (looked == 0) {
                    node = node == 0 ? 0 : parents[node];
                    continue;
                }
                unlooked[node] = looked - 1;
                if ((unmet >> looked & 1) == 0) {
                    continue;
                }
                if (byTree ? parents[looked] == node : grains[looked] == 0) {
                    unmet &= ~(1 << looked);
                    bring(looked, node);
                    node = looked;
                } else {
                    grains[looked] += byTree ? 1 : -1;
                }
            }
        }

        int limbsTo(int node) {
            int limbs = 0;
            for (int at = node; at != 0 && limbs < nodes; at = parents[at]) {
                limbs++;
            }
            return limbs;
        }

        int hangingFrom(int node) {
            int bits = 0;
            for (int kid = 1; kid < nodes; kid++) {
                if (parents[kid] == node) {
                    bits |= 1 << kid - 1;
                }
            }
            return bits;
        }

        int turnedPairs() {
            int pairs = 0;
            for (int node = 1; node < nodes; node++) {
                int at = parents[node];
                for (int limb = 0; limb < nodes && at != 0; limb++) {
                    if (node < at) {
                        pairs++;
                    }
                    at = parents[at];
                }
            }
            return pairs;
        }

        int wishByOrder(int node) {
            for (int i = 0; i < nodes; i++) {
                if (order[i] == parents[node]) {
                    return i + 1;
                }
            }
            return NONE;
        }

        int codeNumber(int i) {
            clearLimbs();
            for (int node = 1; node < nodes; node++) {
                addLimb(node, parents[node]);
            }
            int written = NONE;
            for (int k = 0; k <= i; k++) {
                int end = leastWithOneLimb();
                written = lowestBit(near[end]);
                near[end] = 0;
                near[written] &= ~(1 << end);
            }
            return written;
        }

        void decode(long[] code, int cars) {
            begin(cars);
            clearLimbs();
            int left = (1 << nodes) - 1;
            for (int i = 0; i < cars - 1; i++) {
                int end = leastUnwritten(code, i, cars - 1, left);
                left &= ~(1 << end);
                addLimb(end, (int) code[i]);
            }
            int last = lowestBit(left);
            addLimb(last, lowestBit(left & ~(1 << last)));
            hangByLimbs();
        }

        /** The least NODE left that is not written from i on: all its limbs but one are taken off. */
        private int leastUnwritten(long[] code, int i, int length, int left) {
            int unwritten = left;
            for (int k = i; k < length; k++) {
                unwritten &= ~(1 << (int) code[k]);
            }
            return lowestBit(unwritten);
        }

        private void hangByLimbs() {
            int unmet = (1 << nodes) - 2;
            for (int i = 0; i < nodes; i++) {
                int from = order[i];
                for (int node = 1; node < nodes; node++) {
                    if ((near[from] & unmet & 1 << node) != 0) {
                        unmet &= ~(1 << node);
                        bring(node, from);
                    }
                }
            }
        }

        private void clearLimbs() {
            for (int node = 0; node < nodes; node++) {
                near[node] = 0;
            }
        }

        private void addLimb(int one, int other) {
            near[one] |= 1 << other;
            near[other] |= 1 << one;
        }

        private int leastWithOneLimb() {
            for (int node = 0; node < nodes; node++) {
                if (Integer.bitCount(near[node]) == 1) {
                    return node;
                }
            }
            return 0;
        }

        private static int lowestBit(int bits) {
            for (int bit = 0; bit < MOST_NODES; bit++) {
                if ((bits >> bit & 1) != 0) {
                    return bit;
                }
            }
            return 0;
        }
    }

    /** BLOCKS of numbers 1 .. size: each number has the bits of its BLOCK's numbers, 1 the lowest. */
    private static final class Blocks {
        final int[] masks;
        private int size;

        Blocks() {
            masks = new int[MOST_NODES + 1];
        }

        void start(int numbers) {
            size = numbers;
            for (int number = 1; number <= size; number++) {
                masks[number] = placeBit(number);
            }
        }

        void join(int one, int other) {
            int whole = masks[one] | masks[other];
            for (int number = 1; number <= size; number++) {
                if ((whole & placeBit(number)) != 0) {
                    masks[number] = whole;
                }
            }
        }

        boolean joinable(int one, int other) {
            if (one < 1 || one > size || other < 1 || other > size || masks[one] == masks[other]) {
                return false;
            }
            int whole = masks[one] | masks[other];
            for (int number = 1; number <= size; number++) {
                if ((whole & placeBit(number)) == 0 && crosses(whole, masks[number])) {
                    return false;
                }
            }
            return true;
        }

        /** Two BLOCKS cross, if their numbers by size change sides three times. */
        private boolean crosses(int first, int second) {
            int changes = 0;
            int side = 0;
            for (int number = 1; number <= size; number++) {
                int bit = placeBit(number);
                int now = (first & bit) != 0 ? 1 : (second & bit) != 0 ? 2 : side;
                if (side != 0 && now != side) {
                    changes++;
                }
                side = now;
            }
            return changes >= 3;
        }

        boolean isLeast(int number) {
            return (masks[number] & placeBit(number) - 1) == 0;
        }

        int labelOf(int one, int other) {
            int label = 0;
            int open = 0;
            for (int number = 1; number <= size; number++) {
                int mask = masks[number];
                if (mask == masks[one] || mask == masks[other]) {
                    if (open != 0 && mask != open) {
                        return label;
                    }
                    open = mask;
                    label = number;
                }
            }
            return label;
        }
    }

    private static final class Slot {
        final long[] numbers;
        boolean filled;
        int width;
        int length;

        Slot() {
            numbers = new long[MOST_NUMBERS];
        }

        void begin(int bytes, int n) {
            filled = true;
            width = bytes;
            length = n;
            for (int i = 0; i < n; i++) {
                numbers[i] = 0;
            }
        }

        boolean holds(int from, int n) {
            return from >= 0 && n >= 0 && from <= length - n;
        }
    }
}
