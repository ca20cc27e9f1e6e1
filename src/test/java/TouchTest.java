/** Promise 13: touch. */
public final class TouchTest {

    public static void main(String[] args) {
        countsWhatTouches();
        countsNothingElse();
        refusesWrongNumbers();
        Check.end();
    }

    /** Three piers of one height under one plate, and a pile on that. */
    private static void countsWhatTouches() {
        LoadRoom room = new LoadRoom(3, 4, 3);
        room.piece(1, 2, 3, 9);
        room.piece(2, 2, 1, 9);
        room.piece(2, 2, 2, 9);
        room.piece(3, 1, 3, 3);
        room.piece(2, 1, 2, 1);
        Check.is("pack(5)", room.pack(5), 31);
        Check.is("the first pier", room.touch(0, 3), 3);
        Check.is("the second pier", room.touch(1, 3), 2);
        Check.is("the third pier", room.touch(2, 3), 4);
        Check.is("the plate", room.touch(3, 4), 4);
        Check.is("not from above", room.touch(3, 0), 0);
        Check.is("not side by side", room.touch(0, 1), 0);
        Check.is("not through another", room.touch(0, 4), 0);
        Check.is("not itself", room.touch(3, 3), 0);
    }

    /** Pieces of one height on the floor, the one's top as high as no other one's bottom. */
    private static void countsNothingElse() {
        LoadRoom room = new LoadRoom(2, 2, 1);
        room.piece(1, 1, 1, 1);
        room.piece(1, 1, 1, 1);
        room.piece(1, 1, 1, 1);
        room.piece(200, 1, 1, 1);
        Check.is("nothing was packed", room.touch(0, 1), 0);
        Check.is("pack(1000)", room.pack(1000), 3);
        Check.is("0 is under 2", room.touch(0, 2), 1);
        Check.is("1 is beside, at its height", room.touch(1, 2), 0);
        Check.is("3 is left out", room.touch(0, 3), 0);
        Check.is("3 is left out, below", room.touch(3, 0), 0);
        Check.is("3 is left out, twice", room.touch(3, 3), 0);
    }

    private static void refusesWrongNumbers() {
        LoadRoom room = Packed.room();
        int[] noPieces = {-1, 2, 7, 8, Integer.MIN_VALUE, Integer.MAX_VALUE};
        for (int piece : noPieces) {
            Check.refuses("touch(" + piece + ", 0)", IndexOutOfBoundsException.class, () -> room.touch(piece, 0));
            Check.refuses("touch(0, " + piece + ")", IndexOutOfBoundsException.class, () -> room.touch(0, piece));
        }
        Packed.isThere(room, "refused");
        room.turn(0, 0);
        Check.refuses("nothing was packed: touch(0, 2)", IndexOutOfBoundsException.class, () -> room.touch(0, 2));
        Check.is("nothing was packed: touch(0, 1)", room.touch(0, 1), 0);
    }
}
