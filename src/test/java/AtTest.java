/** Promise 11: at. */
public final class AtTest {

    private static final Class<IndexOutOfBoundsException> INDEX = IndexOutOfBoundsException.class;
    private static final Class<IllegalArgumentException> ARGUMENT = IllegalArgumentException.class;

    public static void main(String[] args) {
        tellsEachNumber();
        tellsNothingOfOthers();
        refusesWrongNumbers();
        Check.end();
    }

    /**
     * Piece 2 is turned (2: height, width, depth) and covers a half of the floor; 0 stands beside it, nearer to the
     * door 3 does; 1 lies on 3 and 2 together.
     */
    private static void tellsEachNumber() {
        LoadRoom room = new LoadRoom(3, 2, 4);
        room.piece(1, 2, 2, 50);
        room.piece(2, 1, 4, 3);
        room.piece(1, 2, 2, 20);
        room.piece(3, 1, 2, 30);
        room.piece(1, 1, 2, 1);
        room.turn(2, 2);
        room.limit(0, 1000);
        Check.is("all of the box", room.pack(1000), 24);
        int[][] due = {
            {0, 0, 0, 0, 0, 0},
            {1, 1, 0, 0, 3, 0},
            {1, 0, 0, 2, 1, 3},
            {0, 0, 2, 0, 2, 4},
            {0, 1, 2, 0, 4, 0},
        };
        for (int piece = 0; piece < due.length; piece++) {
            for (int what = 0; what < 6; what++) {
                Check.is("at(" + piece + ", " + what + ")", room.at(piece, what), due[piece][what]);
            }
        }
    }

    private static void tellsNothingOfOthers() {
        LoadRoom room = new LoadRoom(2, 1, 1);
        room.piece(2, 1, 1, 1);
        room.piece(1, 1, 1, 1);
        for (int what = 0; what < 6; what++) {
            Check.is("nothing was packed: at(0, " + what + ")", room.at(0, what), LoadRoom.NONE);
        }
        room.pack(1000);
        for (int what = 0; what < 6; what++) {
            Check.is("left out: at(1, " + what + ")", room.at(1, what), LoadRoom.NONE);
            Check.is("not left out: at(0, " + what + ")", room.at(0, what), 0);
        }
    }

    private static void refusesWrongNumbers() {
        LoadRoom room = Packed.room();
        int[] noPieces = {-1, 2, 7, 8, Integer.MIN_VALUE, Integer.MAX_VALUE};
        for (int piece : noPieces) {
            Check.refuses("at(" + piece + ", 0)", INDEX, () -> room.at(piece, 0));
            Check.refuses("at(" + piece + ", 6)", INDEX, () -> room.at(piece, 6));
        }
        int[] nothing = {-1, 6, Integer.MIN_VALUE, Integer.MAX_VALUE};
        for (int what : nothing) {
            Check.refuses("at(0, " + what + ")", ARGUMENT, () -> room.at(0, what));
        }
        Packed.isThere(room, "refused");
        room.turn(0, 0);
        Check.refuses("nothing was packed: at(0, 6)", ARGUMENT, () -> room.at(0, 6));
        Check.refuses("nothing was packed: at(0, -1)", ARGUMENT, () -> room.at(0, -1));
        LoadRoom left = new LoadRoom(1, 1, 1);
        left.piece(2, 2, 2, 1);
        left.pack(1);
        Check.refuses("left out: at(0, 6)", ARGUMENT, () -> left.at(0, 6));
    }
}
