import java.util.ArrayList;
import java.util.List;
import java.util.Random;

/** What was told, asked and refused before leaves nothing behind: an object told anew answers as a new one. */
public final class LeftoversTest {
    private static int calls;

    public static void main(String[] args) {
        Random random = new Random(83);
        for (int round = 0; round < 400; round++) {
            String before = street(random);
            String after = street(random);
            Kit.part("'" + before + "' ahead of '" + after + "'");
            ParkingTrees used = used(before, random);
            ParkingTrees fresh = new ParkingTrees();
            Kit.due("street()", Kit.tell(used, after), Kit.tell(fresh, after));
            compare(used, fresh, 1 + round % 3);
        }
        Kit.finish();
    }

    private static String street(Random random) {
        int places = 1 + random.nextInt(8);
        int[] wishes = new int[random.nextInt(4) == 0 ? random.nextInt(places + 1) : places];
        for (int i = 0; i < wishes.length; i++) {
            wishes[i] = 1 + random.nextInt(i + 1);
        }
        StringBuilder text = new StringBuilder(random.nextInt(8) == 0 ? ""
            : Kit.text(places, random.nextInt(4), random.nextInt(11), wishes));
        for (int number = 2; number <= places + 1 && text.length() > 0 && random.nextInt(5) != 0; number++) {
            text.append("join ").append(number).append(' ').append(number - 1).append(';');
        }
        return text.toString();
    }

    private static ParkingTrees used(String text, Random random) {
        ParkingTrees x = new ParkingTrees();
        Kit.tell(x, text);
        answers(x, random.nextInt(3));
        x.wants(0, 1);
        x.trades(0, 1);
        x.rate(0, 77);
        for (int slot = 0; slot < 4; slot++) {
            x.row(slot, 3, 60);
            for (int i = 0; i < 8; i++) {
                x.write(slot, i, 1);
            }
        }
        // a FAULT far into the text
        Kit.tell(x, "street places 8 law 3 odds 9;car wants 8 stands 98;join 1 9;join 2 8;join 3 9;");
        return x;
    }

    private static void compare(ParkingTrees used, ParkingTrees fresh, int car) {
        for (int slot = 0; slot < 4; slot++) {
            int length = slot == 0 ? Math.max(0, fresh.count(0) - 1) : 2 * slot - 2;
            used.row(slot, slot, length);
            fresh.row(slot, slot, length);
        }
        calls = 0;
        List<Long> got = answers(used, car);
        List<Long> due = answers(fresh, car);
        Kit.due("calls stay within what is promised", calls < 300 ? 1 : 0, 1);
        for (int i = 0; i < due.size(); i++) {
            Kit.due("answer " + i, got.get(i), due.get(i));
        }
    }

    private static void add(List<Long> answers, long... more) {
        for (long answer : more) {
            answers.add(answer);
            calls++;
        }
    }

    /** What calls of every kind answer; the last of them act. */
    static List<Long> answers(ParkingTrees x, int c) {
        List<Long> all = new ArrayList<>();
        add(all, x.code(0), x.code(1), x.code(5), x.upset(0), x.above(0, c), x.wish(0, c), x.regain(0, c));
        add(all, x.place(c), x.steps(c), x.lost(), x.free(), x.holder(c), x.lucky(), x.sum(), x.worst(), x.runs());
        add(all, x.sorted(c), x.lawful(), x.prime(), x.breaks(), x.likes(), x.ring(c), x.hole(), x.shifts());
        add(all, x.shifted(c, 1), x.parent(c), x.depth(c), x.kids(c), x.queue(c), x.leaves(), x.inversions());
        add(all, x.burnt(c), x.turned(), x.visit(c), x.code(c), x.rows(c), x.moved(c, 1), x.trees(c, 1), x.ends(c, 1));
        add(all, x.label(c), x.merged(c), x.blocks(), x.block(c), x.next(), x.may(c, 4), x.labels(c, 4), x.chain());
        add(all, x.region(c), x.across(c, 0), x.fences(), x.far(), x.astride(), x.mend(), x.swap(), x.blame());
        for (int slot = 0; slot < 4; slot++) {
            add(all, x.fits(slot, c), x.ask(slot, c), x.remain(slot, c), x.laws(slot), x.by(slot));
        }
        add(all, x.law(), x.worth(1), x.share(c, 0), x.share(c, 1), x.rests(c, 0), x.gets(c, 0, 1, 1));
        add(all, x.chance(c, 0), x.chance(c, 1), x.mean(0), x.mean(1), x.drawn(c, 0), x.drawn(c, 1), x.luck(c, 9, 0));
        for (int what = 0; what <= 8; what++) {
            add(all, x.count(what));
        }
        add(all, x.car(c, 0), x.car(c, 1), x.fault(0), x.fault(1), x.undo());
        add(all, x.wants(c, 2), x.trades(c, 0), x.code(0), x.code(1), x.burnt(0), x.parent(0), x.place(0));
        add(all, x.undo(), x.code(0), x.anew(), x.code(0), x.car(0, 0), x.rate(c, 50), x.region(c), x.undo());
        return all;
    }
}
