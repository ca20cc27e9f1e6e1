/** Promise 15: load. */
public final class LoadTest {

    public static void main(String[] args) {
        oneAxleTakesAll();
        twoAxlesShareAsALever();
        weightsOutsideLiftOne();
        onlyTheNextTwoTake();
        fractionsOfTwoWaysAreAdded();
        onAnAxleAllIsItsOwn();
        nothingWeighsNothing();
        leftOutWeighsNothing();
        theGreatestNumbers();
        refusesWrongNumbers();
        Check.end();
    }

    private static void is(LoadRoom room, int axle, long above, long below) {
        Check.is("load(" + axle + ", 0)", room.load(axle, 0), above);
        Check.is("load(" + axle + ", 1)", room.load(axle, 1), below);
    }

    /** A box with one piece that begins at depth 0, so that it weighs at half its depth. */
    private static LoadRoom one(int depth, int weight, int... places) {
        LoadRoom room = new LoadRoom(1, 1, 200);
        room.piece(1, 1, depth, weight);
        room.pack(1000);
        for (int place : places) {
            room.axle(place);
        }
        return room;
    }

    private static void oneAxleTakesAll() {
        is(one(3, 7, 0), 0, 7, 1);
        is(one(3, 7, 1000), 0, 7, 1);
        LoadRoom two = new LoadRoom(1, 1, 5);
        two.axle(3);
        two.piece(1, 1, 1, 2);
        two.piece(1, 1, 4, 9);
        two.pack(1000);
        is(two, 0, 11, 1);
    }

    private static void twoAxlesShareAsALever() {
        LoadRoom middle = one(4, 9, 0, 4);
        is(middle, 0, 9, 2);
        is(middle, 1, 9, 2);
        LoadRoom nearer = one(4, 9, 1, 4);
        is(nearer, 0, 6, 1);
        is(nearer, 1, 3, 1);
        LoadRoom odd = one(3, 5, 0, 7);
        is(odd, 0, 5 * 11, 14);
        is(odd, 1, 5 * 3, 14);
    }

    private static void weightsOutsideLiftOne() {
        LoadRoom before = one(2, 6, 4, 7);
        is(before, 0, 12, 1);
        is(before, 1, -6, 1);
        LoadRoom behind = one(20, 6, 1, 5);
        is(behind, 0, -15, 2);
        is(behind, 1, 27, 2);
        LoadRoom three = one(1, 1, 1, 3, 9);
        is(three, 0, 5, 4);
        is(three, 1, -1, 4);
        is(three, 2, 0, 1);
        LoadRoom last = one(200, 1, 10, 20, 50);
        is(last, 0, 0, 1);
        is(last, 1, -5, 3);
        is(last, 2, 8, 3);
    }

    private static void onlyTheNextTwoTake() {
        LoadRoom room = one(10, 10, 0, 2, 4, 6, 8, 20);
        is(room, 0, 0, 1);
        is(room, 1, 0, 1);
        is(room, 2, 5, 1);
        is(room, 3, 5, 1);
        is(room, 4, 0, 1);
        is(room, 5, 0, 1);
    }

    /** Weights before and behind the axle in the middle, over ways of 3 and of 4. */
    private static void fractionsOfTwoWaysAreAdded() {
        LoadRoom room = new LoadRoom(1, 1, 7);
        room.piece(1, 1, 4, 5);
        room.piece(1, 1, 3, 7);
        room.order(0, 1);
        room.pack(1000);
        Check.is("z of 0", room.at(0, 2), 0);
        Check.is("z of 1", room.at(1, 2), 4);
        room.axle(0);
        room.axle(3);
        room.axle(7);
        // 5 at 2: a third to 0, two thirds to 1; 7 at 5 1/2: three eighths to 1, five eighths to 2.
        is(room, 0, 5, 3);
        is(room, 1, 10 * 8 + 21 * 3, 24);
        is(room, 2, 35, 8);
    }

    private static void onAnAxleAllIsItsOwn() {
        LoadRoom first = one(2, 9, 1, 3, 5);
        is(first, 0, 9, 1);
        is(first, 1, 0, 1);
        LoadRoom middle = one(6, 9, 1, 3, 5);
        is(middle, 0, 0, 1);
        is(middle, 1, 9, 1);
        is(middle, 2, 0, 1);
        LoadRoom last = one(10, 9, 1, 3, 5);
        is(last, 1, 0, 1);
        is(last, 2, 9, 1);
    }

    private static void nothingWeighsNothing() {
        LoadRoom room = new LoadRoom(1, 1, 1);
        room.axle(3);
        is(room, 0, 0, 1);
        room.axle(4);
        is(room, 1, 0, 1);
        room.pack(1);
        is(room, 1, 0, 1);
        room.piece(1, 1, 1, 1);
        is(room, 0, 0, 1);
        room.pack(1);
        is(room, 0, 7, 2);
        room.limit(0, 3);
        is(room, 0, 0, 1);
        is(room, 1, 0, 1);
    }

    private static void leftOutWeighsNothing() {
        LoadRoom room = new LoadRoom(1, 1, 4);
        room.piece(1, 1, 4, 5);
        room.piece(1, 1, 1, 100);
        room.pack(1000);
        room.axle(2);
        is(room, 0, 5, 1);
    }

    private static void theGreatestNumbers() {
        LoadRoom room = new LoadRoom(8, 1, 200);
        for (int i = 0; i < 8; i++) {
            room.piece(1, 1, 199, 10000);
        }
        room.pack(8);
        room.axle(998);
        room.axle(999);
        room.axle(1000);
        // Each weighs at 199 / 2.
        is(room, 0, 40000L * (2 * 999 - 199), 1);
        is(room, 1, -40000L * (2 * 998 - 199), 1);
        is(room, 2, 0, 1);
        LoadRoom wide = one(199, 9999, 0, 1, 1000);
        is(wide, 0, 0, 1);
        is(wide, 1, 9999L * 1801 / 9, 1998 / 9);
        is(wide, 2, 9999L * 197 / 9, 1998 / 9);
    }

    private static void refusesWrongNumbers() {
        LoadRoom bare = new LoadRoom(1, 1, 1);
        int[][] any = {{0, 0}, {-1, 0}, {0, 2}, {6, -1}, {Integer.MIN_VALUE, Integer.MAX_VALUE}};
        for (int[] call : any) {
            Check.refuses("no axle: load(" + call[0] + ", " + call[1] + ")", ArithmeticException.class,
                    () -> bare.load(call[0], call[1]));
        }
        LoadRoom room = Packed.room();
        int[] noAxles = {-1, 1, 5, 6, Integer.MIN_VALUE, Integer.MAX_VALUE};
        for (int axle : noAxles) {
            Check.refuses("load(" + axle + ", 0)", IndexOutOfBoundsException.class, () -> room.load(axle, 0));
            Check.refuses("load(" + axle + ", 2)", IndexOutOfBoundsException.class, () -> room.load(axle, 2));
        }
        int[] noParts = {-1, 2, Integer.MIN_VALUE, Integer.MAX_VALUE};
        for (int part : noParts) {
            Check.refuses("load(0, " + part + ")", IllegalArgumentException.class, () -> room.load(0, part));
        }
        Packed.isThere(room, "refused");
    }
}
