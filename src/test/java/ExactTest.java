/** Promise 8: exact. */
public final class ExactTest {

    public static void main(String[] args) {
        Doc.open("Promise 8: exact");
        Doc.says("Whether something was packed", ExactTest::needsSomethingPacked);
        Doc.says("and the search was not SPENT", ExactTest::needsEnoughSteps);
        Doc.end();
    }

    private static void needsSomethingPacked() {
        LoadRoom room = new LoadRoom(1, 2, 1);
        Check.is("a new one", room.exact(), false);
        room.pack(1);
        Check.is("packed without pieces", room.exact(), true);
        room.piece(1, 1, 1, 1);
        Check.is("a piece came", room.exact(), false);
        Check.refuses("pack(0)", Check.ARGUMENT, () -> room.pack(0));
        Check.is("refused: nothing was packed", room.exact(), false);
        room.pack(1000);
        Check.is("packed", room.exact(), true);
        room.turn(0, 3);
        Check.is("marks were changed", room.exact(), false);
        room.pack(1000);
        room.order(0, 1);
        Check.is("a stop was changed", room.exact(), false);
        room.pack(1000);
        room.limit(0, 1);
        Check.is("a limit was changed", room.exact(), false);
        room.pack(1000);
        room.axle(3);
        Check.is("an axle changes nothing", room.exact(), true);
        Check.refuses("pack(1001)", Check.ARGUMENT, () -> room.pack(1001));
        Check.is("refused: as before", room.exact(), true);
    }

    /** Two pieces, one on the other or each alone: four packings. */
    private static void needsEnoughSteps() {
        LoadRoom room = Rooms.ofUnits(1, 2, 1, 2);
        int[] told = {1, 3, 4, 5, 3, 1000, 2, 4};
        for (int steps : told) {
            room.pack(steps);
            Check.is("pack(" + steps + ")", room.exact(), steps >= 4);
        }
        room.pack(1);
        Check.refuses("pack(0)", Check.ARGUMENT, () -> room.pack(0));
        Check.is("refused: spent as before", room.exact(), false);
        room.piece(2, 2, 2, 1);
        room.pack(4);
        Check.is("a spent search is forgotten; one more that does not fit", room.exact(), true);
        LoadRoom one = Rooms.ofUnits(1, 1, 1, 1);
        one.pack(1);
        Check.is("one step, one packing", one.exact(), true);
    }
}
