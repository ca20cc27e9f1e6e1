import java.math.BigInteger;
import java.util.ArrayList;
import java.util.Arrays;
import java.util.List;
import java.util.TreeSet;

/**
 * The document's words as plainly as they can be written, without any care for speed: a second answer to compare
 * with. Every row is judged as a whole, by unit cubes where the document speaks of parts of faces.
 */
final class PlainRoom {

    private static final int[][] AXES = {{0, 1, 2}, {2, 1, 0}, {1, 0, 2}, {2, 0, 1}, {0, 2, 1}, {1, 2, 0}};

    private record Piece(int[] size, int weight, int marks, int stop, int limit) {

        int[] turned(int turn) {
            return new int[] {size[AXES[turn][0]], size[AXES[turn][1]], size[AXES[turn][2]]};
        }

        int volume() {
            return size[0] * size[1] * size[2];
        }

        boolean allows(int turn) {
            return turn == 0 || turn == 1 && (marks == 1 || marks == 3) || turn > 1 && (marks == 2 || marks == 3);
        }

        List<Integer> turns() {
            List<Integer> found = new ArrayList<>();
            for (int turn = 0; turn < 6; turn++) {
                boolean isNew = true;
                for (int before : found) {
                    isNew = isNew && !Arrays.equals(turned(before), turned(turn));
                }
                if (allows(turn) && isNew) {
                    found.add(turn);
                }
            }
            return found;
        }
    }

    private record Laid(int number, Piece piece, int turn, int[] size, int[] place) {

        int end(int axis) {
            return place[axis] + size[axis];
        }

        boolean overlaps(Laid other, int axis) {
            return Math.min(end(axis), other.end(axis)) > Math.max(place[axis], other.place[axis]);
        }
    }

    private final int[] box;
    private final List<Piece> pieces = new ArrayList<>();
    private final List<Integer> axles = new ArrayList<>();
    private List<Laid> best = new ArrayList<>();
    private int made = -1;
    private int told;
    private boolean spent;

    PlainRoom(int width, int height, int depth) {
        box = new int[] {clamp(width), clamp(height), clamp(depth)};
    }

    private static int clamp(int length) {
        return length < 1 ? 1 : length > 200 ? 200 : length;
    }

    private static void argument(boolean holds) {
        if (!holds) {
            throw new IllegalArgumentException();
        }
    }

    private static void index(boolean holds) {
        if (!holds) {
            throw new IndexOutOfBoundsException();
        }
    }

    private void forget() {
        best = new ArrayList<>();
        made = -1;
        spent = false;
    }

    int piece(int width, int height, int depth, int weight) {
        for (int length : new int[] {width, height, depth}) {
            argument(1 <= length && length <= 200);
        }
        argument(1 <= weight && weight <= 10000);
        if (pieces.size() == 8) {
            throw new IllegalStateException();
        }
        forget();
        pieces.add(new Piece(new int[] {width, height, depth}, weight, 0, 0, 100000));
        return pieces.size() - 1;
    }

    private Piece known(int piece) {
        index(0 <= piece && piece < pieces.size());
        return pieces.get(piece);
    }

    int turn(int piece, int marks) {
        Piece it = known(piece);
        argument(0 <= marks && marks <= 3);
        forget();
        pieces.set(piece, new Piece(it.size, it.weight, marks, it.stop, it.limit));
        return it.marks;
    }

    int order(int piece, int stop) {
        Piece it = known(piece);
        argument(0 <= stop && stop <= 9);
        forget();
        pieces.set(piece, new Piece(it.size, it.weight, it.marks, stop, it.limit));
        return it.stop;
    }

    int limit(int piece, int above) {
        Piece it = known(piece);
        argument(0 <= above && above <= 100000);
        forget();
        pieces.set(piece, new Piece(it.size, it.weight, it.marks, it.stop, above));
        return it.limit;
    }

    int fits(int piece) {
        int found = 0;
        for (int turn : known(piece).turns()) {
            int[] size = known(piece).turned(turn);
            found += size[0] <= box[0] && size[1] <= box[1] && size[2] <= box[2] ? 1 : 0;
        }
        return found;
    }

    int pack(int steps) {
        argument(1 <= steps && steps <= 1000);
        forget();
        told = steps;
        made = 0;
        search(new ArrayList<>());
        return volume(best);
    }

    private void search(List<Laid> row) {
        for (int number = 0; number < pieces.size(); number++) {
            int wanted = number;
            if (row.stream().noneMatch(it -> it.number == wanted)) {
                for (int turn : pieces.get(number).turns()) {
                    searchPlaces(row, number, turn);
                }
            }
        }
    }

    private void searchPlaces(List<Laid> row, int number, int turn) {
        for (int y : corners(row, 1)) {
            for (int z : corners(row, 2)) {
                for (int x : corners(row, 0)) {
                    Piece piece = pieces.get(number);
                    List<Laid> longer = new ArrayList<>(row);
                    longer.add(new Laid(number, piece, turn, piece.turned(turn), new int[] {x, y, z}));
                    if (!spent && isPacking(longer)) {
                        meet(longer);
                    }
                }
            }
        }
    }

    private void meet(List<Laid> row) {
        if (made == told) {
            spent = true;
            return;
        }
        made++;
        boolean isBetter = volume(row) > volume(best)
                || volume(row) == volume(best) && moment(row) < moment(best);
        if (isBetter) {
            best = row;
        }
        search(row);
    }

    private static TreeSet<Integer> corners(List<Laid> row, int axis) {
        TreeSet<Integer> found = new TreeSet<>(List.of(0));
        for (Laid it : row) {
            found.add(it.end(axis));
        }
        return found;
    }

    private boolean isPacking(List<Laid> row) {
        for (int i = 0; i < row.size(); i++) {
            Laid it = row.get(i);
            if (!isInBox(it) || i > 0 && !rises(row.get(i - 1), it) || !stands(row, it)
                    || bears(row, it) > it.piece.limit) {
                return false;
            }
            for (Laid other : row) {
                if (it != other && (sharesRoom(it, other) || shutsIn(other, it))) {
                    return false;
                }
            }
        }
        return true;
    }

    private boolean isInBox(Laid it) {
        return it.end(0) <= box[0] && it.end(1) <= box[1] && it.end(2) <= box[2];
    }

    private static boolean rises(Laid one, Laid next) {
        int[] ranks = {1, 2, 0};
        for (int axis : ranks) {
            if (one.place[axis] != next.place[axis]) {
                return one.place[axis] < next.place[axis];
            }
        }
        return false;
    }

    private static boolean sharesRoom(Laid one, Laid other) {
        return one.overlaps(other, 0) && one.overlaps(other, 1) && one.overlaps(other, 2);
    }

    private static boolean shutsIn(Laid outer, Laid inner) {
        return outer.piece.stop > inner.piece.stop && outer.place[2] >= inner.end(2)
                && outer.overlaps(inner, 0) && outer.overlaps(inner, 1);
    }

    private static boolean stands(List<Laid> row, Laid it) {
        for (int x = it.place[0]; x < it.end(0) && it.place[1] > 0; x++) {
            for (int z = it.place[2]; z < it.end(2); z++) {
                boolean isHeld = false;
                for (Laid other : row) {
                    isHeld = isHeld || other != it && other.end(1) == it.place[1]
                            && other.place[0] <= x && x < other.end(0) && other.place[2] <= z && z < other.end(2);
                }
                if (!isHeld) {
                    return false;
                }
            }
        }
        return true;
    }

    private static int bears(List<Laid> row, Laid it) {
        int sum = 0;
        for (Laid other : row) {
            if (other.place[1] >= it.end(1) && other.overlaps(it, 0) && other.overlaps(it, 2)) {
                sum += other.piece.weight;
            }
        }
        return sum;
    }

    private static int volume(List<Laid> row) {
        int sum = 0;
        for (Laid it : row) {
            sum += it.piece.volume();
        }
        return sum;
    }

    private static long moment(List<Laid> row) {
        long sum = 0;
        for (Laid it : row) {
            sum += (long) it.piece.weight * (2 * it.place[1] + it.size[1]);
        }
        return sum;
    }

    boolean exact() {
        return made >= 0 && !spent;
    }

    int steps() {
        return made;
    }

    int bound() {
        int sum = 0;
        for (int piece = 0; piece < pieces.size(); piece++) {
            sum += fits(piece) > 0 ? pieces.get(piece).volume() : 0;
        }
        return Math.min(sum, box[0] * box[1] * box[2]);
    }

    int at(int piece, int what) {
        known(piece);
        argument(0 <= what && what <= 5);
        for (int i = 0; i < best.size(); i++) {
            Laid it = best.get(i);
            if (it.number == piece) {
                return new int[] {it.place[0], it.place[1], it.place[2], it.turn, i, bears(best, it)}[what];
            }
        }
        return -1;
    }

    long moment() {
        return moment(best);
    }

    int touch(int lower, int upper) {
        known(lower);
        known(upper);
        int cells = 0;
        for (int x = 0; x < box[0]; x++) {
            for (int z = 0; z < box[2]; z++) {
                cells += touchesAt(lower, upper, x, z) ? 1 : 0;
            }
        }
        return cells;
    }

    private boolean touchesAt(int lower, int upper, int x, int z) {
        int top = -1;
        int bottom = -2;
        for (Laid it : best) {
            boolean isHere = it.place[0] <= x && x < it.end(0) && it.place[2] <= z && z < it.end(2);
            top = isHere && it.number == lower ? it.end(1) : top;
            bottom = isHere && it.number == upper ? it.place[1] : bottom;
        }
        return top == bottom;
    }

    int axle(int place) {
        argument(0 <= place && place <= 1000);
        argument(axles.isEmpty() || place > axles.get(axles.size() - 1));
        if (axles.size() == 6) {
            throw new IllegalStateException();
        }
        axles.add(place);
        return axles.size() - 1;
    }

    /** Each share is a fraction of its own; they are added one by one, and reduced at the end. */
    long load(int axle, int part) {
        if (axles.isEmpty()) {
            throw new ArithmeticException();
        }
        index(0 <= axle && axle < axles.size());
        argument(part == 0 || part == 1);
        BigInteger above = BigInteger.ZERO;
        BigInteger below = BigInteger.ONE;
        for (Laid it : best) {
            long[] share = share(axle, it);
            BigInteger shareBelow = BigInteger.valueOf(share[1]);
            above = above.multiply(shareBelow).add(BigInteger.valueOf(share[0]).multiply(below));
            below = below.multiply(shareBelow);
        }
        BigInteger common = above.gcd(below);
        return (part == 0 ? above : below).divide(common).longValueExact();
    }

    private long[] share(int axle, Laid it) {
        if (axles.size() == 1) {
            return new long[] {it.piece.weight, 1};
        }
        int middle = 2 * it.place[2] + it.size[2];
        int first = 0;
        while (first < axles.size() - 2 && middle > 2 * axles.get(first + 1)) {
            first++;
        }
        long one = 2 * axles.get(first);
        long next = 2 * axles.get(first + 1);
        if (axle == first) {
            return new long[] {it.piece.weight * (next - middle), next - one};
        }
        return new long[] {axle == first + 1 ? it.piece.weight * (middle - one) : 0, next - one};
    }
}
