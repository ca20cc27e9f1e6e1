/** Promise 11: at. */
public final class AtTest {

    private static final int NONE = LoadRoom.NONE;

    /** What is due of each piece in the room below: x, y, z, turn, number in the row, what it bears. */
    private static final int[][] DUE = {
        {0, 0, 0, 0, 0, 0},
        {1, 1, 0, 0, 3, 0},
        {1, 0, 0, 2, 1, 3},
        {0, 0, 2, 0, 2, 4},
        {0, 1, 2, 0, 4, 0},
    };

    public static void main(String[] args) {
        Doc.open("Promise 11: at");
        Doc.says("Of a piece in what was packed:", AtTest::tellsOfTheLatestPacking);
        Doc.says("what = 0 its x", () -> tells(0));
        Doc.says("1 y", () -> tells(1));
        Doc.says("2 z", () -> tells(2));
        Doc.says("3 its turn", () -> tells(3));
        Doc.says("4 its number in the row", () -> tells(4));
        Doc.says("5 how much it bears", () -> tells(5));
        Doc.says("NONE if it is left out", AtTest::tellsNoneOfWhatIsLeftOut);
        Doc.says("or nothing was packed", AtTest::tellsNoneWhenNothingWasPacked);
        Doc.says("IndexOutOfBoundsException", AtTest::refusesNoPieces);
        Doc.says("IllegalArgumentException: what is none of these.", AtTest::refusesOtherNumbers);
        Doc.end();
    }

    private static void tellsOfTheLatestPacking() {
        LoadRoom room = Rooms.box(1, 2, 1, Rooms.piece(1, 1, 1, 1), Rooms.piece(1, 1, 1, 2));
        room.pack(2);
        Check.is("two steps: y of the light one", room.at(0, 1), 0);
        room.pack(4);
        Check.is("four steps: y of the light one", room.at(0, 1), 1);
        Check.is("four steps: y of the heavy one", room.at(1, 1), 0);
    }

    /**
     * Piece 0 stands at the origin, piece 2 beside it, turned to (2, 1, 2), with room above it; piece 3 lies before
     * both; piece 1 lies on 2 and 3, piece 4 beside it on 3.
     */
    private static void tells(int what) {
        LoadRoom room = Rooms.box(3, 2, 4, Rooms.piece(1, 2, 2, 50), Rooms.piece(2, 1, 4, 3),
                Rooms.piece(1, 2, 2, 20), Rooms.piece(3, 1, 2, 30), Rooms.piece(1, 1, 2, 1));
        room.turn(2, 2);
        Check.is("the box is full", room.pack(1000), 24);
        for (int piece = 0; piece < DUE.length; piece++) {
            Check.is("at(" + piece + ", " + what + ")", room.at(piece, what), DUE[piece][what]);
        }
    }

    private static void tellsNoneOfWhatIsLeftOut() {
        LoadRoom room = Rooms.box(2, 1, 1, Rooms.piece(2, 1, 1, 1), Rooms.piece(1, 1, 1, 1), Rooms.piece(3, 1, 1, 1));
        room.pack(1000);
        for (int what = 0; what < 6; what++) {
            Check.is("packed: at(0, " + what + ")", room.at(0, what), 0);
            Check.is("left out: at(1, " + what + ")", room.at(1, what), NONE);
            Check.is("too long: at(2, " + what + ")", room.at(2, what), NONE);
        }
    }

    private static void tellsNoneWhenNothingWasPacked() {
        LoadRoom room = Rooms.ofUnits(1, 1, 1, 1);
        for (int what = 0; what < 6; what++) {
            Check.is("not yet: at(0, " + what + ")", room.at(0, what), NONE);
        }
        room.pack(1);
        Check.is("packed: at(0, 0)", room.at(0, 0), 0);
        room.turn(0, 0);
        for (int what = 0; what < 6; what++) {
            Check.is("no more: at(0, " + what + ")", room.at(0, what), NONE);
        }
    }

    private static void refusesNoPieces() {
        LoadRoom room = Packed.room();
        int[] noPieces = {-1, 2, 7, 8, Integer.MIN_VALUE, Integer.MAX_VALUE};
        for (int piece : noPieces) {
            Check.refuses("at(" + piece + ", 0)", Check.INDEX, () -> room.at(piece, 0));
            Check.refuses("at(" + piece + ", 6)", Check.INDEX, () -> room.at(piece, 6));
            Check.refuses("at(" + piece + ", -1)", Check.INDEX, () -> room.at(piece, -1));
        }
        Packed.isThere(room, "refused");
        room.turn(0, 0);
        Check.refuses("nothing was packed: at(2, 0)", Check.INDEX, () -> room.at(2, 0));
        LoadRoom full = Rooms.ofUnits(1, 1, 1, 8);
        Check.is("the eighth piece: at(7, 0)", full.at(7, 0), NONE);
        Check.refuses("eight pieces: at(8, 0)", Check.INDEX, () -> full.at(8, 0));
    }

    private static void refusesOtherNumbers() {
        LoadRoom room = Packed.room();
        LoadRoom fresh = Rooms.ofUnits(1, 1, 1, 1);
        LoadRoom left = Rooms.box(1, 1, 1, Rooms.piece(2, 2, 2, 1));
        left.pack(1);
        int[] others = {-1, 6, Integer.MIN_VALUE, Integer.MAX_VALUE};
        for (int what : others) {
            Check.refuses("packed: at(0, " + what + ")", Check.ARGUMENT, () -> room.at(0, what));
            Check.refuses("nothing was packed: at(0, " + what + ")", Check.ARGUMENT, () -> fresh.at(0, what));
            Check.refuses("left out: at(0, " + what + ")", Check.ARGUMENT, () -> left.at(0, what));
        }
        Packed.isThere(room, "refused");
    }
}
