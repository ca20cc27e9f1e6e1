/** Promise 4: order. That each piece can come out is in TermsPackingTest. */
public final class OrderTest {

    public static void main(String[] args) {
        Doc.open("Promise 4: order");
        Doc.says("Its STOP (0 .. 9)", OrderTest::takesTheLeastAndTheGreatest);
        Doc.says("what it was", OrderTest::answersWhatStopWas);
        Doc.says("What was packed is gone.", OrderTest::forgetsWhatWasPacked);
        Doc.says("IndexOutOfBoundsException", OrderTest::refusesNoPieces);
        Doc.says("IllegalArgumentException", OrderTest::refusesOtherStops);
        Doc.end();
    }

    /** Of two in a row to the door the one of the greater stop is farther in. */
    private static void takesTheLeastAndTheGreatest() {
        LoadRoom room = Rooms.ofUnits(1, 1, 2, 2);
        for (int stop = 9; stop >= 0; stop--) {
            room.order(0, 5);
            room.order(1, stop);
            Check.is("5 and " + stop + ": both go in", room.pack(1000), 2);
            Check.is("5 and " + stop + ": z of 5", room.at(0, 2), stop > 5 ? 1 : 0);
            room.order(0, 0);
            room.order(1, 9);
            room.pack(1000);
            Check.is("0 and 9: z of 9", room.at(1, 2), 0);
        }
    }

    private static void answersWhatStopWas() {
        LoadRoom room = Rooms.ofUnits(4, 4, 4, 2);
        Check.is("order(0, 9)", room.order(0, 9), 0);
        Check.is("order(0, 9) again", room.order(0, 9), 9);
        Check.is("order(0, 1)", room.order(0, 1), 9);
        Check.is("order(1, 2), another one", room.order(1, 2), 0);
        Check.is("order(0, 0)", room.order(0, 0), 1);
        Check.is("order(0, 0) again", room.order(0, 0), 0);
        Check.is("order(1, 0)", room.order(1, 0), 2);
    }

    private static void forgetsWhatWasPacked() {
        LoadRoom room = Packed.room();
        room.order(0, 1);
        Packed.isGone(room, "another stop");
        LoadRoom last = Packed.room();
        last.order(1, 9);
        Packed.isGone(last, "another stop of the last one");
        LoadRoom same = Packed.room();
        same.order(0, 0);
        Packed.isGone(same, "the same stop");
    }

    private static void refusesNoPieces() {
        LoadRoom room = Packed.room();
        int[] noPieces = {-1, 2, 7, 8, Integer.MIN_VALUE, Integer.MAX_VALUE};
        for (int piece : noPieces) {
            Check.refuses("order(" + piece + ", 0)", Check.INDEX, () -> room.order(piece, 0));
            Check.refuses("order(" + piece + ", 10)", Check.INDEX, () -> room.order(piece, 10));
            Check.refuses("order(" + piece + ", -1)", Check.INDEX, () -> room.order(piece, -1));
        }
        Packed.isThere(room, "refused");
        LoadRoom full = Rooms.ofUnits(1, 1, 1, 8);
        Check.is("the eighth piece: order(7, 9)", full.order(7, 9), 0);
        Check.refuses("eight pieces: order(8, 0)", Check.INDEX, () -> full.order(8, 0));
    }

    private static void refusesOtherStops() {
        LoadRoom room = Rooms.ofUnits(1, 1, 2, 2);
        room.order(0, 4);
        room.pack(1000);
        int[] noStops = {-1, 10, Integer.MIN_VALUE, Integer.MAX_VALUE};
        for (int stop : noStops) {
            Check.refuses("order(0, " + stop + ")", Check.ARGUMENT, () -> room.order(0, stop));
            Check.is("refused: steps()", room.steps(), 3);
        }
        Check.is("what it was before the refusals", room.order(0, 0), 4);
    }
}
