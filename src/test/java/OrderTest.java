/** Promise 4: order; and that each piece can come out. */
public final class OrderTest {

    public static void main(String[] args) {
        answersWhatStopWas();
        greaterStopsStandFartherIn();
        equalStopsAreFree();
        besideIsNotBefore();
        underIsNotBefore();
        higherPiecesBehindAreShutIn();
        forgetsWhatWasPacked();
        refusesWrongNumbers();
        Check.end();
    }

    private static void answersWhatStopWas() {
        LoadRoom room = new LoadRoom(4, 4, 4);
        room.piece(1, 1, 1, 1);
        room.piece(1, 1, 1, 1);
        Check.is("order(0, 9)", room.order(0, 9), 0);
        Check.is("order(0, 1)", room.order(0, 1), 9);
        Check.is("order(1, 2)", room.order(1, 2), 0);
        Check.is("order(0, 0)", room.order(0, 0), 1);
    }

    /** Two pieces in a row to the door; the one of the smaller stop must be nearer to it. */
    private static void greaterStopsStandFartherIn() {
        LoadRoom room = new LoadRoom(1, 1, 2);
        room.piece(1, 1, 1, 1);
        room.piece(1, 1, 1, 1);
        room.order(1, 1);
        Check.is("pack(1000)", room.pack(1000), 2);
        Check.is("z of stop 0", room.at(0, 2), 1);
        Check.is("z of stop 1", room.at(1, 2), 0);
        Check.is("steps: 0; 1, 1 and 0", room.steps(), 3);
    }

    private static void equalStopsAreFree() {
        LoadRoom room = new LoadRoom(1, 1, 2);
        room.piece(1, 1, 1, 1);
        room.piece(1, 1, 1, 1);
        room.order(0, 5);
        room.order(1, 5);
        room.pack(1000);
        Check.is("z of the first", room.at(0, 2), 0);
        Check.is("steps: 0, 0 and 1; 1, 1 and 0", room.steps(), 4);
    }

    private static void besideIsNotBefore() {
        LoadRoom room = new LoadRoom(2, 1, 1);
        room.piece(1, 1, 1, 1);
        room.piece(1, 1, 1, 1);
        room.order(1, 9);
        room.pack(1000);
        Check.is("side by side", room.steps(), 4);
    }

    /** A piece that is nearer to the door but lower than another one's face does not shut it in. */
    private static void underIsNotBefore() {
        LoadRoom room = new LoadRoom(1, 2, 2);
        room.piece(1, 1, 2, 1);
        room.piece(1, 1, 1, 1);
        room.order(0, 9);
        room.order(1, 0);
        Check.is("pack(1000)", room.pack(1000), 3);
        Check.is("the small one is above", room.at(1, 1), 1);
        LoadRoom deep = new LoadRoom(1, 2, 2);
        deep.piece(1, 1, 1, 1);
        deep.piece(1, 1, 1, 1);
        deep.piece(1, 1, 1, 1);
        deep.order(0, 2);
        deep.order(1, 2);
        Check.is("pack(1000), deep", deep.pack(1000), 3);
        Check.is("over the one that is farther in", deep.at(2, 2), 0);
        Check.is("just above the face of the one before it", deep.at(2, 1), 1);
        deep.order(0, 0);
        deep.order(1, 0);
        deep.order(2, 2);
        Check.is("pack(1000), high", deep.pack(1000), 3);
        Check.is("farther in again", deep.at(2, 2), 0);
        deep.limit(0, 0);
        Check.is("pack(1000), high before the door", deep.pack(1000), 3);
        Check.is("just above the face of the one behind it", deep.at(2, 1), 1);
    }

    /** A high piece and two low ones, one on the other: they stand all three, or the stops forbid it. */
    private static void higherPiecesBehindAreShutIn() {
        LoadRoom room = new LoadRoom(1, 2, 2);
        room.piece(1, 2, 1, 1);
        room.piece(1, 1, 1, 1);
        room.piece(1, 1, 1, 1);
        Check.is("all of one stop", room.pack(1000), 4);
        room.order(0, 1);
        Check.is("the high one leaves later", room.pack(1000), 4);
        Check.is("it is farther in", room.at(0, 2), 0);
        room.order(1, 2);
        Check.is("one leaves before, one behind it", room.pack(1000), 3);
        room.order(2, 2);
        Check.is("the high one leaves first", room.pack(1000), 4);
        Check.is("it is nearer to the door", room.at(0, 2), 1);
    }

    private static void forgetsWhatWasPacked() {
        LoadRoom room = Packed.room();
        room.order(0, 1);
        Packed.isGone(room, "another stop");
        LoadRoom same = Packed.room();
        same.order(0, 0);
        Packed.isGone(same, "the same stop");
    }

    private static void refusesWrongNumbers() {
        LoadRoom room = Packed.room();
        int[] noPieces = {-1, 2, 8, Integer.MIN_VALUE, Integer.MAX_VALUE};
        for (int piece : noPieces) {
            Check.refuses("order(" + piece + ", 0)", IndexOutOfBoundsException.class, () -> room.order(piece, 0));
            Check.refuses("order(" + piece + ", 10)", IndexOutOfBoundsException.class, () -> room.order(piece, 10));
        }
        int[] noStops = {-1, 10, Integer.MIN_VALUE, Integer.MAX_VALUE};
        for (int stop : noStops) {
            Check.refuses("order(0, " + stop + ")", IllegalArgumentException.class, () -> room.order(0, stop));
        }
        Packed.isThere(room, "refused");
        Check.is("stop after refusals", room.order(0, 0), 0);
    }
}
