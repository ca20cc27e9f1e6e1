import java.util.Random;
import java.util.function.LongSupplier;

/** Promises 1 to 15 over many runs of calls, right and wrong ones: each answer is that of PlainRoom. */
public final class PlainRoomTest {

    /** What is promised; the longest row of questions must still go in. */
    private static final int MOST_CALLS = 512 - 150;

    private final Random random;
    private final String name;
    private final LoadRoom room;
    private final PlainRoom plain;
    private final int greatest;
    private int calls = 0;

    private PlainRoomTest(long seed) {
        random = new Random(seed);
        greatest = seed % 10 == 0 ? 60 : between(1, 5);
        int width = between(0, greatest + 1);
        int height = between(0, greatest + 1);
        int depth = between(0, greatest + 2);
        name = "run " + seed + ", box " + width + " x " + height + " x " + depth;
        room = new LoadRoom(width, height, depth);
        plain = new PlainRoom(width, height, depth);
    }

    public static void main(String[] args) {
        long runs = args.length > 0 ? Long.parseLong(args[0]) : 600;
        for (long seed = 1; seed <= runs; seed++) {
            new PlainRoomTest(seed).run();
        }
        Check.end();
    }

    private int between(int least, int most) {
        return least + random.nextInt(most - least + 1);
    }

    private void compare(String call, LongSupplier got, LongSupplier due) {
        calls++;
        String here = answer(got);
        String there = answer(due);
        if (!here.equals(there)) {
            Check.tell(name + ": " + call + " answered " + here + ", due is " + there);
        }
    }

    private static String answer(LongSupplier call) {
        try {
            return Long.toString(call.getAsLong());
        } catch (RuntimeException thrown) {
            return thrown.getClass().getName();
        }
    }

    private void run() {
        int pieces = between(0, 8);
        for (int i = 0; i < pieces; i++) {
            addPiece();
        }
        int changes = between(5, 60);
        for (int i = 0; i < changes && calls < MOST_CALLS; i++) {
            change();
            askOne();
            if (random.nextInt(5) == 0) {
                pack();
                askAll();
            }
        }
        pack();
        askOne();
    }

    private void addPiece() {
        int most = random.nextBoolean() ? greatest : (greatest + 1) / 2;
        int width = between(1, most);
        int height = between(1, most);
        int depth = between(1, most);
        int weight = between(1, 9);
        compare("piece", () -> room.piece(width, height, depth, weight),
                () -> plain.piece(width, height, depth, weight));
        setUp(between(0, 7), between(0, 3), between(0, 2), between(0, 40));
    }

    private void setUp(int piece, int marks, int stop, int above) {
        compare("turn(" + piece + ", " + marks + ")", () -> room.turn(piece, marks), () -> plain.turn(piece, marks));
        compare("order(" + piece + ", " + stop + ")", () -> room.order(piece, stop), () -> plain.order(piece, stop));
        compare("limit(" + piece + ", " + above + ")", () -> room.limit(piece, above),
                () -> plain.limit(piece, above));
    }

    private void change() {
        int piece = between(-1, 8);
        switch (random.nextInt(8)) {
            case 0, 1 -> {
                int marks = between(-1, 4);
                compare("turn(" + piece + ", " + marks + ")", () -> room.turn(piece, marks),
                        () -> plain.turn(piece, marks));
            }
            case 2, 3 -> {
                int stop = random.nextInt(4) == 0 ? between(-1, 10) : between(0, 2);
                compare("order(" + piece + ", " + stop + ")", () -> room.order(piece, stop),
                        () -> plain.order(piece, stop));
            }
            case 4, 5 -> {
                int above = random.nextInt(5) == 0 ? between(99999, 100001) : between(-1, 25);
                compare("limit(" + piece + ", " + above + ")", () -> room.limit(piece, above),
                        () -> plain.limit(piece, above));
            }
            case 6 -> {
                int place = random.nextInt(6) == 0 ? between(998, 1001) : between(-1, 2 * greatest);
                compare("axle(" + place + ")", () -> room.axle(place), () -> plain.axle(place));
            }
            default -> {
                int width = between(0, greatest + 1);
                compare("piece(" + width + ", 1, 2, 3)", () -> room.piece(width, 1, 2, 3),
                        () -> plain.piece(width, 1, 2, 3));
            }
        }
    }

    private void pack() {
        int steps = random.nextInt(3) == 0 ? between(0, 20) : between(50, 400);
        compare("pack(" + steps + ")", () -> room.pack(steps), () -> plain.pack(steps));
    }

    private void askOne() {
        int one = between(-1, 8);
        int other = between(-1, 8);
        switch (random.nextInt(8)) {
            case 0 -> compare("exact()", () -> room.exact() ? 1 : 0, () -> plain.exact() ? 1 : 0);
            case 1 -> compare("steps()", room::steps, plain::steps);
            case 2 -> compare("bound()", room::bound, plain::bound);
            case 3 -> compare("moment()", room::moment, plain::moment);
            case 4 -> compare("fits(" + one + ")", () -> room.fits(one), () -> plain.fits(one));
            case 5 -> compareAt(one, other);
            case 6 -> compareTouch(one, other);
            default -> compareLoad(one, other);
        }
    }

    private void askAll() {
        compare("exact()", () -> room.exact() ? 1 : 0, () -> plain.exact() ? 1 : 0);
        compare("steps()", room::steps, plain::steps);
        compare("bound()", room::bound, plain::bound);
        compare("moment()", room::moment, plain::moment);
        for (int i = 0; i < 8; i++) {
            int piece = i;
            compare("fits(" + piece + ")", () -> room.fits(piece), () -> plain.fits(piece));
            for (int what = 0; what < 6; what++) {
                compareAt(piece, what);
            }
            compareTouch(piece, between(0, 7));
            compareLoad(piece, 0);
            compareLoad(piece, 1);
        }
    }

    private void compareAt(int piece, int what) {
        compare("at(" + piece + ", " + what + ")", () -> room.at(piece, what), () -> plain.at(piece, what));
    }

    private void compareTouch(int lower, int upper) {
        compare("touch(" + lower + ", " + upper + ")", () -> room.touch(lower, upper),
                () -> plain.touch(lower, upper));
    }

    private void compareLoad(int axle, int part) {
        compare("load(" + axle + ", " + part + ")", () -> room.load(axle, part), () -> plain.load(axle, part));
    }
}
