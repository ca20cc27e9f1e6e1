/** Promise 2: piece. */
public final class PieceTest {

    private static final Class<IllegalArgumentException> ARGUMENT = IllegalArgumentException.class;

    public static void main(String[] args) {
        numbersCountUp();
        boundsAreKept();
        marksStopAndLimitAtFirst();
        forgetsWhatWasPacked();
        refusalsChangeNothing();
        Check.end();
    }

    private static void numbersCountUp() {
        LoadRoom room = new LoadRoom(10, 10, 10);
        for (int i = 0; i < 8; i++) {
            Check.is("piece " + i, room.piece(1, 1, 1, 1), i);
        }
        Check.refuses("a ninth piece", IllegalStateException.class, () -> room.piece(1, 1, 1, 1));
        Check.refuses("a ninth piece, wrong too", ARGUMENT, () -> room.piece(0, 1, 1, 1));
        Check.refuses("a ninth piece, too light", ARGUMENT, () -> room.piece(1, 1, 1, 0));
        Check.is("the eighth is still there", room.fits(7), 1);
        Check.refuses("there is no ninth", IndexOutOfBoundsException.class, () -> room.fits(8));
    }

    private static void boundsAreKept() {
        LoadRoom room = new LoadRoom(200, 200, 200);
        int[] wrong = {0, -1, 201, Integer.MIN_VALUE, Integer.MAX_VALUE};
        for (int length : wrong) {
            Check.refuses("width " + length, ARGUMENT, () -> room.piece(length, 1, 1, 1));
            Check.refuses("height " + length, ARGUMENT, () -> room.piece(1, length, 1, 1));
            Check.refuses("depth " + length, ARGUMENT, () -> room.piece(1, 1, length, 1));
        }
        int[] wrongWeights = {0, -1, 10001, Integer.MIN_VALUE, Integer.MAX_VALUE};
        for (int weight : wrongWeights) {
            Check.refuses("weight " + weight, ARGUMENT, () -> room.piece(1, 1, 1, weight));
        }
        Check.is("the least piece", room.piece(1, 1, 1, 1), 0);
        Check.is("the greatest piece", room.piece(200, 200, 200, 10000), 1);
    }

    private static void marksStopAndLimitAtFirst() {
        LoadRoom room = new LoadRoom(9, 9, 9);
        room.piece(1, 2, 3, 4);
        Check.is("marks", room.turn(0, 3), 0);
        Check.is("stop", room.order(0, 9), 0);
        Check.is("limit", room.limit(0, 0), 100000);
        room.piece(3, 2, 1, 4);
        Check.is("marks of the next one", room.turn(1, 3), 0);
        Check.is("stop of the next one", room.order(1, 9), 0);
        Check.is("limit of the next one", room.limit(1, 0), 100000);
    }

    private static void forgetsWhatWasPacked() {
        LoadRoom room = Packed.room();
        room.piece(1, 1, 1, 1);
        Packed.isGone(room, "a piece more");
    }

    private static void refusalsChangeNothing() {
        LoadRoom room = Packed.room();
        Check.refuses("piece(0, 1, 1, 1)", ARGUMENT, () -> room.piece(0, 1, 1, 1));
        Check.refuses("piece(1, 1, 1, 10001)", ARGUMENT, () -> room.piece(1, 1, 1, 10001));
        Packed.isThere(room, "refused");
        Check.is("the number that is next", room.piece(1, 1, 1, 1), 2);

        LoadRoom full = new LoadRoom(1, 1, 1);
        for (int i = 0; i < 8; i++) {
            full.piece(1, 1, 1, 1);
        }
        full.pack(1000);
        Check.refuses("a ninth piece", IllegalStateException.class, () -> full.piece(1, 1, 1, 1));
        Check.is("steps() of a full one", full.steps(), 8);
        Check.is("moment() of a full one", full.moment(), 1);
    }
}
