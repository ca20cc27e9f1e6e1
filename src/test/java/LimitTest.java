/** Promise 5: limit. That no piece bears more is in TermsPackingTest. */
public final class LimitTest {

    public static void main(String[] args) {
        Doc.open("Promise 5: limit");
        Doc.says("Its LIMIT (0 .. 100000)", LimitTest::takesTheLeastAndTheGreatest);
        Doc.says("what it was", LimitTest::answersWhatLimitWas);
        Doc.says("What was packed is gone.", LimitTest::forgetsWhatWasPacked);
        Doc.says("IndexOutOfBoundsException", LimitTest::refusesNoPieces);
        Doc.says("IllegalArgumentException", LimitTest::refusesOtherLimits);
        Doc.end();
    }

    /** The other one bears none, so that it is above if it goes in at all. */
    private static void takesTheLeastAndTheGreatest() {
        LoadRoom room = Rooms.box(1, 2, 1, Rooms.piece(1, 1, 1, 1), Rooms.piece(1, 1, 1, 1));
        room.limit(1, 0);
        room.limit(0, 0);
        Check.is("limit 0: one goes in", room.pack(1000), 1);
        room.limit(0, 1);
        Check.is("limit 1: both go in", room.pack(1000), 2);
        room.limit(0, 100000);
        Check.is("limit 100000: both go in", room.pack(1000), 2);
        room.limit(0, 0);
        Check.is("limit 0 again: one goes in", room.pack(1000), 1);
    }

    private static void answersWhatLimitWas() {
        LoadRoom room = Rooms.ofUnits(4, 4, 4, 2);
        Check.is("limit(0, 0)", room.limit(0, 0), 100000);
        Check.is("limit(0, 0) again", room.limit(0, 0), 0);
        Check.is("limit(0, 100000)", room.limit(0, 100000), 0);
        Check.is("limit(1, 7), another one", room.limit(1, 7), 100000);
        Check.is("limit(1, 8)", room.limit(1, 8), 7);
        Check.is("limit(0, 99999)", room.limit(0, 99999), 100000);
        Check.is("limit(0, 1)", room.limit(0, 1), 99999);
    }

    private static void forgetsWhatWasPacked() {
        LoadRoom room = Packed.room();
        room.limit(0, 1);
        Packed.isGone(room, "another limit");
        LoadRoom last = Packed.room();
        last.limit(1, 0);
        Packed.isGone(last, "another limit of the last one");
        LoadRoom same = Packed.room();
        same.limit(0, 100000);
        Packed.isGone(same, "the same limit");
    }

    private static void refusesNoPieces() {
        LoadRoom room = Packed.room();
        int[] noPieces = {-1, 2, 7, 8, Integer.MIN_VALUE, Integer.MAX_VALUE};
        for (int piece : noPieces) {
            Check.refuses("limit(" + piece + ", 0)", Check.INDEX, () -> room.limit(piece, 0));
            Check.refuses("limit(" + piece + ", -1)", Check.INDEX, () -> room.limit(piece, -1));
            Check.refuses("limit(" + piece + ", 100001)", Check.INDEX, () -> room.limit(piece, 100001));
        }
        Packed.isThere(room, "refused");
        LoadRoom full = Rooms.ofUnits(1, 1, 1, 8);
        Check.is("the eighth piece: limit(7, 0)", full.limit(7, 0), 100000);
        Check.refuses("eight pieces: limit(8, 0)", Check.INDEX, () -> full.limit(8, 0));
    }

    private static void refusesOtherLimits() {
        LoadRoom room = Rooms.ofUnits(1, 2, 1, 2);
        room.limit(0, 0);
        room.pack(1000);
        int[] noLimits = {-1, 100001, Integer.MIN_VALUE, Integer.MAX_VALUE};
        for (int above : noLimits) {
            Check.refuses("limit(0, " + above + ")", Check.ARGUMENT, () -> room.limit(0, above));
            Check.is("refused: steps()", room.steps(), 3);
        }
        Check.is("what it was before the refusals", room.limit(0, 5), 0);
    }
}
