/** Promise 6: fits. */
public final class FitsTest {

    public static void main(String[] args) {
        Doc.open("Promise 6: fits");
        Doc.says("How many turns of a piece are allowed", FitsTest::countsAllowedTurns);
        Doc.says("count", FitsTest::countsAlikeTurnsOnce);
        Doc.says("and are not greater than the box on any axis", FitsTest::countsTurnsThatGoIn);
        Doc.says("IndexOutOfBoundsException", FitsTest::refusesNoPieces);
        Doc.end();
    }

    private static void countsAllowedTurns() {
        LoadRoom room = Rooms.box(3, 3, 3, Rooms.piece(1, 2, 3, 1));
        int[] due = {1, 2, 5, 6};
        for (int marks = 0; marks < 4; marks++) {
            room.turn(0, marks);
            Check.is("marks " + marks, room.fits(0), due[marks]);
        }
        LoadRoom packed = Packed.room();
        Check.is("fits(0)", packed.fits(0), 1);
        Check.is("fits(1)", packed.fits(1), 1);
        Packed.isThere(packed, "asked");
    }

    private static void countsAlikeTurnsOnce() {
        LoadRoom room = Rooms.box(3, 3, 3, Rooms.piece(2, 2, 2, 1), Rooms.piece(1, 1, 2, 1));
        room.turn(0, 3);
        room.turn(1, 3);
        Check.is("all alike", room.fits(0), 1);
        Check.is("three that differ", room.fits(1), 3);
    }

    /** Each turn of a piece by itself in a box as great as that turn, and in boxes that are 1 less on one axis. */
    private static void countsTurnsThatGoIn() {
        int[][] turned = {{2, 4, 6}, {6, 4, 2}, {4, 2, 6}, {6, 2, 4}, {2, 6, 4}, {4, 6, 2}};
        for (int[] size : turned) {
            Check.is("as great as the box", fitsIn(size[0], size[1], size[2]), 1);
            Check.is("too wide", fitsIn(size[0] - 1, size[1], size[2]), 0);
            Check.is("too high", fitsIn(size[0], size[1] - 1, size[2]), 0);
            Check.is("too deep", fitsIn(size[0], size[1], size[2] - 1), 0);
        }
        Check.is("as great as the box in every turn", fitsIn(6, 6, 6), 6);
        Check.is("too great in every turn", fitsIn(5, 5, 5), 0);
        Check.is("(6, 4, 2), (6, 2, 4), (2, 6, 4), (4, 6, 2)", fitsIn(6, 6, 5), 4);
        Check.is("(6, 4, 2), (4, 6, 2)", fitsIn(6, 6, 3), 2);
        Check.is("(2, 4, 6), (2, 6, 4)", fitsIn(3, 6, 6), 2);
        Check.is("(4, 2, 6), (6, 2, 4)", fitsIn(6, 3, 6), 2);
    }

    private static int fitsIn(int width, int height, int depth) {
        LoadRoom room = Rooms.box(width, height, depth, Rooms.piece(2, 4, 6, 1));
        room.turn(0, 3);
        return room.fits(0);
    }

    private static void refusesNoPieces() {
        LoadRoom room = Packed.room();
        int[] noPieces = {-1, 2, 7, 8, Integer.MIN_VALUE, Integer.MAX_VALUE};
        for (int piece : noPieces) {
            Check.refuses("fits(" + piece + ")", Check.INDEX, () -> room.fits(piece));
        }
        Packed.isThere(room, "refused");
        LoadRoom full = Rooms.ofUnits(1, 1, 1, 8);
        Check.is("the eighth piece: fits(7)", full.fits(7), 1);
        Check.refuses("eight pieces: fits(8)", Check.INDEX, () -> full.fits(8));
    }
}
