/** Promise 6: fits. */
public final class FitsTest {

    public static void main(String[] args) {
        countsTurnsThatGoIn();
        packsNothing();
        refusesWrongNumbers();
        Check.end();
    }

    private static void countsTurnsThatGoIn() {
        LoadRoom room = new LoadRoom(2, 3, 4);
        room.piece(2, 3, 4, 1);
        room.turn(0, 3);
        Check.is("as great as the box", room.fits(0), 1);
        room.piece(4, 3, 2, 1);
        Check.is("too wide", room.fits(1), 0);
        room.turn(1, 1);
        Check.is("turned about", room.fits(1), 1);
        room.turn(1, 2);
        Check.is("marks 2: (4, 3, 2), (3, 4, 2), (2, 4, 3), (4, 2, 3), (3, 2, 4)", room.fits(1), 0);
        room.piece(1, 2, 3, 1);
        room.turn(2, 3);
        Check.is("(1, 2, 3), (2, 1, 3), (1, 3, 2), (2, 3, 1)", room.fits(2), 4);
        room.turn(2, 2);
        Check.is("(1, 2, 3), (2, 1, 3), (1, 3, 2), (2, 3, 1) without turn 1", room.fits(2), 4);
        room.turn(2, 1);
        Check.is("(1, 2, 3)", room.fits(2), 1);
        room.piece(3, 3, 3, 1);
        room.turn(3, 3);
        Check.is("too great in every turn", room.fits(3), 0);
        room.piece(200, 200, 200, 1);
        Check.is("far too great", room.fits(4), 0);
    }

    private static void packsNothing() {
        LoadRoom room = Packed.room();
        Check.is("fits(0)", room.fits(0), 1);
        Check.is("fits(1)", room.fits(1), 1);
        Packed.isThere(room, "asked");
    }

    private static void refusesWrongNumbers() {
        LoadRoom room = Packed.room();
        int[] noPieces = {-1, 2, 7, 8, Integer.MIN_VALUE, Integer.MAX_VALUE};
        for (int piece : noPieces) {
            Check.refuses("fits(" + piece + ")", IndexOutOfBoundsException.class, () -> room.fits(piece));
        }
        Packed.isThere(room, "refused");
    }
}
