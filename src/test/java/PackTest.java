/** Promise 7: pack. What a packing, the best one and the search are is in the tests of the terms. */
public final class PackTest {

    private static final int NONE = LoadRoom.NONE;

    public static void main(String[] args) {
        Doc.open("Promise 7: pack");
        Doc.says("THE SEARCH with so many steps (1 .. 1000)", PackTest::takesTheFewestAndTheMost);
        Doc.says("the VOLUME of THE BEST packing that was met", PackTest::answersTheVolume);
        Doc.says("which is packed then", PackTest::packsTheBest);
        Doc.says("0: that without pieces", PackTest::packsWithoutPieces);
        Doc.says("IllegalArgumentException", PackTest::refusesOtherSteps);
        Doc.end();
    }

    private static void takesTheFewestAndTheMost() {
        LoadRoom room = Rooms.ofUnits(8, 8, 8, 8);
        int[] told = {1, 2, 8, 999, 1000};
        for (int steps : told) {
            Check.is("pack(" + steps + ")", room.pack(steps), Math.min(steps, 8));
            Check.is("steps() of " + steps, room.steps(), steps);
            Check.is("exact() of " + steps, room.exact(), false);
        }
    }

    private static void answersTheVolume() {
        LoadRoom room = Rooms.box(3, 1, 2, Rooms.piece(1, 1, 1, 1), Rooms.piece(2, 1, 1, 1), Rooms.piece(3, 1, 1, 1));
        Check.is("the first alone", room.pack(1), 1);
        Check.is("the second beside it", room.pack(2), 3);
        Check.is("the third before both", room.pack(3), 6);
        Check.is("all are met", room.pack(1000), 6);
        LoadRoom great = new LoadRoom(200, 200, 200);
        for (int i = 0; i < 8; i++) {
            great.piece(100, 100, 100, 10000);
        }
        Check.is("the greatest box is full", great.pack(8), 8000000);
        Check.is("its moment", great.moment(), 4L * 10000 * 100 + 4L * 10000 * 300);
    }

    private static void packsTheBest() {
        LoadRoom room = Packed.room();
        Check.is("pack(1)", room.pack(1), 4);
        Check.is("the first is packed", room.at(0, 0), 0);
        Check.is("it bears none", room.at(0, 5), 0);
        Check.is("the other is left out now", room.at(1, 1), NONE);
        Check.is("moment()", room.moment(), 3);
        Check.is("pack(1000)", room.pack(1000), 12);
        Packed.isThere(room, "packed again");
        LoadRoom later = Rooms.box(1, 1, 1, Rooms.piece(1, 1, 1, 2), Rooms.piece(1, 1, 1, 1));
        later.pack(1000);
        Check.is("met first, but not the best", later.at(0, 0), NONE);
        Check.is("the best", later.at(1, 0), 0);
    }

    private static void packsWithoutPieces() {
        LoadRoom room = new LoadRoom(3, 3, 3);
        Check.is("no pieces: pack(1)", room.pack(1), 0);
        Check.is("no pieces: steps()", room.steps(), 0);
        Check.is("no pieces: moment()", room.moment(), 0);
        room.piece(4, 1, 1, 1);
        room.turn(0, 3);
        Check.is("none fits: pack(1000)", room.pack(1000), 0);
        Check.is("none fits: steps()", room.steps(), 0);
        Check.is("none fits: exact()", room.exact(), true);
        Check.is("none fits: at(0, 0)", room.at(0, 0), NONE);
        room.piece(1, 1, 1, 7);
        Check.is("one fits: pack(1)", room.pack(1), 1);
        Check.is("one fits: at(1, 0)", room.at(1, 0), 0);
    }

    private static void refusesOtherSteps() {
        LoadRoom room = Packed.room();
        LoadRoom fresh = new LoadRoom(1, 1, 1);
        int[] noSteps = {0, -1, 1001, Integer.MIN_VALUE, Integer.MAX_VALUE};
        for (int steps : noSteps) {
            Check.refuses("pack(" + steps + ")", Check.ARGUMENT, () -> room.pack(steps));
            Check.refuses("a new one: pack(" + steps + ")", Check.ARGUMENT, () -> fresh.pack(steps));
        }
        Packed.isThere(room, "refused");
        Check.is("a new one: steps()", fresh.steps(), NONE);
        Check.is("a new one: exact()", fresh.exact(), false);
    }
}
