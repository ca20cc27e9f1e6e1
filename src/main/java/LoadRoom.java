/**
 * Loads up to eight pieces into a box so that the volume is greatest, and tells how the load weighs on axles.
 * Everything that a search needs is made once, in the constructor: no call makes an object but an exception.
 */
public final class LoadRoom {

    public static final int NONE = -1;

    private static final int MOST_PIECES = 8;
    private static final int MOST_AXLES = 6;
    private static final int TURNS = 6;
    private static final int MOST_LENGTH = 200;
    private static final int MOST_WEIGHT = 10000;
    private static final int MOST_MARKS = 3;
    private static final int MOST_STOP = 9;
    private static final int MOST_LIMIT = 100000;
    private static final int MOST_STEPS = 1000;
    private static final int MOST_PLACE = 1000;

    private final Box box;
    private final Cargo cargo;
    private final Search search;
    private final Axles axles;

    public LoadRoom(int width, int height, int depth) {
        box = new Box(nearestLength(width), nearestLength(height), nearestLength(depth));
        cargo = new Cargo(box);
        search = new Search(box, cargo);
        axles = new Axles();
    }

    // ---- pieces

    public int piece(int width, int height, int depth, int weight)
            throws IllegalArgumentException, IllegalStateException {
        if (!isLength(width) || !isLength(height) || !isLength(depth)) {
            throw new IllegalArgumentException("a length is not 1 .. 200");
        }
        if (!isWithin(weight, 1, MOST_WEIGHT)) {
            throw new IllegalArgumentException("the weight is not 1 .. 10000");
        }
        if (cargo.isFull()) {
            throw new IllegalStateException("there are 8 pieces");
        }
        search.forget();
        return cargo.add(width, height, depth, weight);
    }

    public int turn(int piece, int marks) throws IndexOutOfBoundsException, IllegalArgumentException {
        Piece it = cargo.get(piece);
        if (!isWithin(marks, 0, MOST_MARKS)) {
            throw new IllegalArgumentException("the marks are not 0 .. 3");
        }
        int before = it.marks;
        it.mark(marks);
        search.forget();
        return before;
    }

    public int order(int piece, int stop) throws IndexOutOfBoundsException, IllegalArgumentException {
        Piece it = cargo.get(piece);
        if (!isWithin(stop, 0, MOST_STOP)) {
            throw new IllegalArgumentException("the stop is not 0 .. 9");
        }
        int before = it.stop;
        it.stop = stop;
        search.forget();
        return before;
    }

    public int limit(int piece, int above) throws IndexOutOfBoundsException, IllegalArgumentException {
        Piece it = cargo.get(piece);
        if (!isWithin(above, 0, MOST_LIMIT)) {
            throw new IllegalArgumentException("the limit is not 0 .. 100000");
        }
        int before = it.limit;
        it.limit = above;
        search.forget();
        return before;
    }

    public int fits(int piece) throws IndexOutOfBoundsException {
        return cargo.get(piece).goodTurns;
    }

    // ---- packing

    public int pack(int steps) throws IllegalArgumentException {
        if (!isWithin(steps, 1, MOST_STEPS)) {
            throw new IllegalArgumentException("the steps are not 1 .. 1000");
        }
        search.start(steps);
        search.goBehind(0);
        return search.best.volume;
    }

    public boolean exact() {
        return search.made != NONE && !search.spent;
    }

    public int steps() {
        return search.made;
    }

    public int bound() {
        return Math.min(box.volume(), cargo.volume());
    }

    public int at(int piece, int what) throws IndexOutOfBoundsException, IllegalArgumentException {
        cargo.demand(piece);
        if (!isWithin(what, 0, 5)) {
            throw new IllegalArgumentException("what is not 0 .. 5");
        }
        Placed it = search.best.find(piece);
        return it == null ? NONE : it.tell(what);
    }

    public long moment() {
        return search.best.moment;
    }

    public int touch(int lower, int upper) throws IndexOutOfBoundsException {
        cargo.demand(lower);
        cargo.demand(upper);
        Placed under = search.best.find(lower);
        Placed over = search.best.find(upper);
        return under == null || over == null ? 0 : over.restsOn(under);
    }

    // ---- axles

    public int axle(int place) throws IllegalArgumentException, IllegalStateException {
        if (!isWithin(place, 0, MOST_PLACE)) {
            throw new IllegalArgumentException("the place is not 0 .. 1000");
        }
        if (place <= axles.lastPlace()) {
            throw new IllegalArgumentException("the place is not above the last one's");
        }
        if (axles.isFull()) {
            throw new IllegalStateException("there are 6 axles");
        }
        return axles.add(place);
    }

    public long load(int axle, int part)
            throws ArithmeticException, IndexOutOfBoundsException, IllegalArgumentException {
        if (axles.count == 0) {
            throw new ArithmeticException("there is no axle");
        }
        if (!axles.has(axle)) {
            throw new IndexOutOfBoundsException("there is no such axle");
        }
        if (!isWithin(part, 0, 1)) {
            throw new IllegalArgumentException("the part is not 0 or 1");
        }
        return axles.share(axle, part, search.best);
    }

    // ---- numbers

    private static boolean isWithin(int number, int least, int most) {
        return number >= least && number <= most;
    }

    private static boolean isLength(int number) {
        return isWithin(number, 1, MOST_LENGTH);
    }

    private static int nearestLength(int number) {
        return Math.max(1, Math.min(MOST_LENGTH, number));
    }

    private static final class Box {
        private final int width;
        private final int height;
        private final int depth;

        Box(int width, int height, int depth) {
            this.width = width;
            this.height = height;
            this.depth = depth;
        }

        int volume() {
            return width * height * depth;
        }
    }

    private static final class Piece {
        private final Box box;
        private final boolean[] isGood = new boolean[TURNS];
        private int goodTurns;
        private int width;
        private int height;
        private int depth;
        private int weight;
        private int marks;
        private int stop;
        private int limit;

        Piece(Box box) {
            this.box = box;
        }

        void become(int newWidth, int newHeight, int newDepth, int newWeight) {
            width = newWidth;
            height = newHeight;
            depth = newDepth;
            weight = newWeight;
            stop = 0;
            limit = MOST_LIMIT;
            mark(0);
        }

        /** A search asks for the good turns at each step, so they are found once, here. */
        void mark(int newMarks) {
            marks = newMarks;
            goodTurns = 0;
            for (int turn = 0; turn < TURNS; turn++) {
                isGood[turn] = counts(turn) && goesIn(turn);
                goodTurns += isGood[turn] ? 1 : 0;
            }
        }

        int volume() {
            return width * height * depth;
        }

        int widthIn(int turn) {
            switch (turn) {
                case 1:
                case 3:
                    return depth;
                case 2:
                case 5:
                    return height;
                default:
                    return width;
            }
        }

        int heightIn(int turn) {
            switch (turn) {
                case 2:
                case 3:
                    return width;
                case 4:
                case 5:
                    return depth;
                default:
                    return height;
            }
        }

        int depthIn(int turn) {
            switch (turn) {
                case 1:
                case 5:
                    return width;
                case 3:
                case 4:
                    return height;
                default:
                    return depth;
            }
        }

        private boolean allows(int turn) {
            if (turn == 0) {
                return true;
            }
            return turn == 1 ? (marks & 1) == 1 : marks >= 2;
        }

        private boolean looksAlike(int turn, int other) {
            return widthIn(turn) == widthIn(other)
                    && heightIn(turn) == heightIn(other)
                    && depthIn(turn) == depthIn(other);
        }

        private boolean counts(int turn) {
            if (!allows(turn)) {
                return false;
            }
            for (int before = 0; before < turn; before++) {
                if (allows(before) && looksAlike(before, turn)) {
                    return false;
                }
            }
            return true;
        }

        private boolean goesIn(int turn) {
            return widthIn(turn) <= box.width && heightIn(turn) <= box.height && depthIn(turn) <= box.depth;
        }
    }

    /** The pieces as they came. All eight stand ready from the start, so that none is ever null. */
    private static final class Cargo {
        private final Piece[] pieces = new Piece[MOST_PIECES];
        private int count;

        Cargo(Box box) {
            for (int i = 0; i < MOST_PIECES; i++) {
                pieces[i] = new Piece(box);
            }
        }

        boolean isFull() {
            return count >= MOST_PIECES;
        }

        int add(int width, int height, int depth, int weight) {
            if (isFull()) {
                return NONE;
            }
            pieces[count].become(width, height, depth, weight);
            count++;
            return count - 1;
        }

        void demand(int piece) {
            if (piece < 0 || piece >= count) {
                throw new IndexOutOfBoundsException("there is no such piece");
            }
        }

        Piece get(int piece) {
            demand(piece);
            return pieces[piece];
        }

        /** That of the pieces which fit. */
        int volume() {
            int sum = 0;
            for (int i = 0; i < count; i++) {
                if (pieces[i].goodTurns > 0) {
                    sum += pieces[i].volume();
                }
            }
            return sum;
        }
    }

    /** A piece in a row, as it is turned, at its place. */
    private static final class Placed {
        private final int number;
        private int piece;
        private int turn;
        private int x;
        private int y;
        private int z;
        private int right;
        private int top;
        private int front;
        private int width;
        private int height;
        private int depth;
        private int weight;
        private int stop;
        private int limit;
        private int bears;

        Placed(int number) {
            this.number = number;
        }

        void take(int newPiece, Piece kind, int newTurn) {
            piece = newPiece;
            turn = newTurn;
            width = kind.widthIn(newTurn);
            height = kind.heightIn(newTurn);
            depth = kind.depthIn(newTurn);
            weight = kind.weight;
            stop = kind.stop;
            limit = kind.limit;
            bears = 0;
        }

        void copy(Placed other) {
            piece = other.piece;
            turn = other.turn;
            x = other.x;
            y = other.y;
            z = other.z;
            right = other.right;
            top = other.top;
            front = other.front;
            width = other.width;
            height = other.height;
            depth = other.depth;
            weight = other.weight;
            stop = other.stop;
            limit = other.limit;
            bears = other.bears;
        }

        void moveToX(int place) {
            x = place;
            right = place + width;
        }

        void moveToY(int place) {
            y = place;
            top = place + height;
        }

        void moveToZ(int place) {
            z = place;
            front = place + depth;
        }

        boolean isPast(Placed other) {
            if (y != other.y) {
                return y > other.y;
            }
            return z != other.z ? z > other.z : x > other.x;
        }

        boolean sharesRoom(Placed other) {
            return x < other.right && other.x < right
                    && z < other.front && other.z < front
                    && y < other.top && other.y < top;
        }

        boolean isOver(Placed other) {
            return y >= other.top
                    && x < other.right && other.x < right
                    && z < other.front && other.z < front;
        }

        boolean shutsIn(Placed other) {
            return stop > other.stop && z >= other.front
                    && x < other.right && other.x < right
                    && y < other.top && other.y < top;
        }

        int restsOn(Placed other) {
            if (y != other.top) {
                return 0;
            }
            int wide = Math.min(right, other.right) - Math.max(x, other.x);
            int deep = Math.min(front, other.front) - Math.max(z, other.z);
            return wide > 0 && deep > 0 ? wide * deep : 0;
        }

        int tell(int what) {
            switch (what) {
                case 0:
                    return x;
                case 1:
                    return y;
                case 2:
                    return z;
                case 3:
                    return turn;
                case 4:
                    return number;
                default:
                    return bears;
            }
        }
    }

    /** A packing. The slot behind its last piece serves to try the next one. */
    private static final class Row {
        private final Placed[] slots = new Placed[MOST_PIECES];
        private int length;
        private int volume;
        private long moment;

        Row() {
            for (int i = 0; i < MOST_PIECES; i++) {
                slots[i] = new Placed(i);
            }
        }

        void clear() {
            length = 0;
            volume = 0;
            moment = 0;
        }

        void copy(Row other) {
            for (int i = 0; i < other.length; i++) {
                slots[i].copy(other.slots[i]);
            }
            length = other.length;
            volume = other.volume;
            moment = other.moment;
        }

        Placed find(int piece) {
            for (int i = 0; i < length; i++) {
                if (slots[i].piece == piece) {
                    return slots[i];
                }
            }
            return null;
        }

        boolean isBetterThan(Row other) {
            return volume != other.volume ? volume > other.volume : moment < other.moment;
        }

        /** Places rise along a row, so nothing comes lower than this any more. */
        int leastHeight() {
            return length > 0 ? slots[length - 1].y : 0;
        }

        /** Nor, at that height, farther from the door than this. */
        int leastDepth(int height) {
            return length > 0 && slots[length - 1].y == height ? slots[length - 1].z : 0;
        }

        boolean admits(Placed next) {
            return isRising(next) && letsStand(next) && hasRoom(next) && carries(next) && letsOut(next);
        }

        private boolean isRising(Placed next) {
            return length == 0 || next.isPast(slots[length - 1]);
        }

        private boolean hasRoom(Placed next) {
            for (int i = 0; i < length; i++) {
                if (next.sharesRoom(slots[i])) {
                    return false;
                }
            }
            return true;
        }

        /** Upper faces at one height never overlap, so the areas that are covered may be added. */
        private boolean letsStand(Placed next) {
            if (next.y == 0) {
                return true;
            }
            int covered = 0;
            for (int i = 0; i < length; i++) {
                covered += next.restsOn(slots[i]);
            }
            return covered == next.width * next.depth;
        }

        /** The next piece bears nothing itself: no piece before it begins higher than it. */
        private boolean carries(Placed next) {
            for (int i = 0; i < length; i++) {
                Placed under = slots[i];
                if (under.bears + next.weight > under.limit && next.isOver(under)) {
                    return false;
                }
            }
            return true;
        }

        private boolean letsOut(Placed next) {
            for (int i = 0; i < length; i++) {
                if (next.shutsIn(slots[i]) || slots[i].shutsIn(next)) {
                    return false;
                }
            }
            return true;
        }

        void lengthen() {
            if (length < MOST_PIECES) {
                reckon(slots[length], 1);
                length++;
            }
        }

        void shorten() {
            if (length > 0) {
                length--;
                reckon(slots[length], -1);
            }
        }

        /** Adds what a last piece brings (sign 1), or takes it away (sign -1). */
        private void reckon(Placed last, int sign) {
            volume += sign * last.width * last.height * last.depth;
            moment += sign * last.weight * (2 * last.y + last.height);
            for (int i = 0; i < length; i++) {
                if (last.isOver(slots[i])) {
                    slots[i].bears += sign * last.weight;
                }
            }
        }
    }

    /**
     * Where a next piece may begin on one axis, for each length of the row: 0 and the ends of the pieces in it,
     * rising, each once.
     */
    private static final class Ends {
        private final int[][] sorted = new int[MOST_PIECES][MOST_PIECES];
        private final int[] counts = new int[MOST_PIECES];

        Ends() {
            counts[0] = 1;
        }

        int count(int length) {
            return length >= 0 && length < MOST_PIECES ? counts[length] : 0;
        }

        int get(int length, int index) {
            return index >= 0 && index < count(length) ? sorted[length][index] : 0;
        }

        /** A full row has no next piece, and needs no ends. */
        void grow(int length, int end) {
            if (length < 0 || length >= MOST_PIECES - 1) {
                return;
            }
            int[] from = sorted[length];
            int[] into = sorted[length + 1];
            int count = Math.min(counts[length], MOST_PIECES - 1);
            int smaller = 0;
            while (smaller < count && from[smaller] < end) {
                into[smaller] = from[smaller];
                smaller++;
            }
            int shift = smaller < count && from[smaller] == end ? 0 : 1;
            into[smaller] = end;
            for (int i = smaller; i < count; i++) {
                into[i + shift] = from[i];
            }
            counts[length + 1] = count + shift;
        }
    }

    /**
     * The upper faces at one height (at 0 the box's floor), by their area and the least plan that has them all.
     * A piece that is greater, or partly outside, can't stand there: so most places need no closer look.
     */
    private static final class Floor {
        private int y;
        private int area;
        private int left;
        private int right;
        private int back;
        private int front;

        void lay(Box box) {
            y = 0;
            area = box.width * box.depth;
            left = 0;
            right = box.width;
            back = 0;
            front = box.depth;
        }

        void lay(int height, Row row) {
            y = height;
            area = 0;
            for (int i = 0; i < row.length; i++) {
                if (row.slots[i].top == height) {
                    widen(row.slots[i]);
                }
            }
        }

        private void widen(Placed under) {
            boolean first = area == 0;
            area += under.width * under.depth;
            left = first ? under.x : Math.min(left, under.x);
            right = first ? under.right : Math.max(right, under.right);
            back = first ? under.z : Math.min(back, under.z);
            front = first ? under.front : Math.max(front, under.front);
        }
    }

    private static final class Search {
        private final Box box;
        private final Cargo cargo;
        private final Row row = new Row();
        private final Row best = new Row();
        private final Ends rights = new Ends();
        private final Ends tops = new Ends();
        private final Ends fronts = new Ends();
        private final Floor[] floors = new Floor[MOST_PIECES * MOST_PIECES];
        private int told;
        private int made = NONE;
        private boolean spent;

        Search(Box box, Cargo cargo) {
            this.box = box;
            this.cargo = cargo;
            for (int i = 0; i < MOST_PIECES * MOST_PIECES; i++) {
                floors[i] = new Floor();
            }
        }

        void forget() {
            made = NONE;
            best.clear();
        }

        void start(int steps) {
            told = steps;
            made = 0;
            spent = false;
            row.clear();
            best.clear();
        }

        /** Searches what comes behind the row; its length is the depth of this recursion. */
        void goBehind(int length) {
            if (length < 0 || length >= MOST_PIECES) {
                return;
            }
            layFloors(length);
            Placed next = row.slots[length];
            for (int piece = 0; piece < cargo.count && !spent; piece++) {
                Piece kind = cargo.pieces[piece];
                boolean isLeft = row.find(piece) == null;
                for (int turn = 0; turn < TURNS && isLeft && !spent; turn++) {
                    if (kind.isGood[turn]) {
                        next.take(piece, kind, turn);
                        tryFloors(next);
                    }
                }
            }
        }

        private void layFloors(int length) {
            floors[length * MOST_PIECES].lay(box);
            for (int i = 1; i < tops.count(length); i++) {
                floors[length * MOST_PIECES + i].lay(tops.get(length, i), row);
            }
        }

        private void tryFloors(Placed next) {
            int count = tops.count(next.number);
            for (int i = 0; i < count && !spent; i++) {
                Floor floor = floors[next.number * MOST_PIECES + i];
                next.moveToY(floor.y);
                if (next.y >= row.leastHeight() && next.top <= box.height
                        && next.width * next.depth <= floor.area) {
                    tryPlaces(next, floor);
                }
            }
        }

        private void tryPlaces(Placed next, Floor floor) {
            int least = Math.max(floor.back, row.leastDepth(floor.y));
            for (int i = 0; i < fronts.count(next.number) && !spent; i++) {
                next.moveToZ(fronts.get(next.number, i));
                boolean isIn = next.z >= least && next.front <= floor.front;
                for (int j = 0; j < rights.count(next.number) && isIn && !spent; j++) {
                    next.moveToX(rights.get(next.number, j));
                    if (next.x >= floor.left && next.right <= floor.right && row.admits(next)) {
                        meet(next);
                    }
                }
            }
        }

        private void meet(Placed next) {
            if (made >= told) {
                spent = true;
                return;
            }
            made++;
            row.lengthen();
            rights.grow(next.number, next.right);
            tops.grow(next.number, next.top);
            fronts.grow(next.number, next.front);
            if (row.isBetterThan(best)) {
                best.copy(row);
            }
            goBehind(next.number + 1);
            row.shorten();
        }
    }

    private static final class Axles {
        /** Far more than Euclid's way needs for the numbers that can come. */
        private static final int MOST_DIVISIONS = 1000;

        private final int[] places = new int[MOST_AXLES];
        private int count;

        boolean isFull() {
            return count >= MOST_AXLES;
        }

        boolean has(int axle) {
            return axle >= 0 && axle < count;
        }

        int lastPlace() {
            return count > 0 ? places[count - 1] : NONE;
        }

        int add(int place) {
            if (isFull()) {
                return NONE;
            }
            places[count] = place;
            count++;
            return count - 1;
        }

        long share(int axle, int part, Row packed) {
            long before = gap(axle - 1);
            long behind = gap(axle);
            long above = sumFromBefore(axle, packed) * behind + sumFromBehind(axle, packed) * before;
            return inLowestTerms(above, before * behind, part);
        }

        /** Twice the way from an axle to the next one, as middles of depths are doubled too; 1 if there is no way. */
        private int gap(int first) {
            return has(first) && has(first + 1) ? 2 * (places[first + 1] - places[first]) : 1;
        }

        /** The first one of the two axles that take a weight. */
        private int firstOfTwo(int doubledPlace) {
            int first = 0;
            for (int i = 1; i < count - 1; i++) {
                if (2 * places[i] <= doubledPlace) {
                    first = i;
                }
            }
            return first;
        }

        /** What an axle takes as the second one of two, times their gap. */
        private long sumFromBefore(int axle, Row packed) {
            long sum = 0;
            for (int i = 0; i < packed.length; i++) {
                Placed it = packed.slots[i];
                int middle = 2 * it.z + it.depth;
                if (has(axle - 1) && firstOfTwo(middle) == axle - 1) {
                    sum += (long) it.weight * (middle - 2 * places[axle - 1]);
                }
            }
            return sum;
        }

        /** What an axle takes as the first one of two, times their gap; an axle alone takes all. */
        private long sumFromBehind(int axle, Row packed) {
            long sum = 0;
            for (int i = 0; i < packed.length; i++) {
                Placed it = packed.slots[i];
                int middle = 2 * it.z + it.depth;
                if (count == 1) {
                    sum += it.weight;
                } else if (has(axle + 1) && firstOfTwo(middle) == axle) {
                    sum += (long) it.weight * (2 * places[axle + 1] - middle);
                }
            }
            return sum;
        }

        private static long inLowestTerms(long above, long below, int part) {
            long asked = part == 0 ? above : below;
            long common = commonDivisor(Math.abs(above), below);
            return common > 1 ? asked / common : asked;
        }

        private static long commonDivisor(long one, long other) {
            long greater = one;
            long rest = other;
            for (int i = 0; i < MOST_DIVISIONS && rest != 0; i++) {
                long next = greater % rest;
                greater = rest;
                rest = next;
            }
            return greater;
        }
    }
}
