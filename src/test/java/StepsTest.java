/** Promise 9: steps. */
public final class StepsTest {

    private static final int NONE = LoadRoom.NONE;

    public static void main(String[] args) {
        Doc.open("Promise 9: steps");
        Doc.says("How many steps the latest search made", StepsTest::countsOfTheLatestSearch);
        Doc.says("NONE when nothing was packed since a piece came or was changed", StepsTest::countsNoneWhenForgotten);
        Doc.end();
    }

    /** Three pieces and room for two side by side: 3 packings of one, and behind each of them 2 of two. */
    private static void countsOfTheLatestSearch() {
        LoadRoom room = Rooms.ofUnits(2, 1, 1, 3);
        for (int steps = 1; steps <= 9; steps++) {
            room.pack(steps);
            Check.is("told " + steps, room.steps(), steps);
        }
        room.pack(10);
        Check.is("told 10", room.steps(), 9);
        room.pack(1000);
        Check.is("told 1000", room.steps(), 9);
        room.pack(4);
        Check.is("told 4", room.steps(), 4);
        Check.refuses("pack(1001)", Check.ARGUMENT, () -> room.pack(1001));
        Check.is("refused: as before", room.steps(), 4);
        LoadRoom many = Rooms.ofUnits(8, 8, 8, 8);
        many.pack(1000);
        Check.is("1000 of far more", many.steps(), 1000);
        LoadRoom empty = new LoadRoom(1, 1, 1);
        empty.pack(7);
        Check.is("no pieces", empty.steps(), 0);
    }

    private static void countsNoneWhenForgotten() {
        LoadRoom room = new LoadRoom(2, 1, 1);
        Check.is("a new one", room.steps(), NONE);
        room.pack(7);
        room.piece(1, 1, 1, 1);
        Check.is("a piece came", room.steps(), NONE);
        room.pack(7);
        room.turn(0, 1);
        Check.is("marks were changed", room.steps(), NONE);
        room.pack(7);
        room.order(0, 1);
        Check.is("a stop was changed", room.steps(), NONE);
        room.pack(7);
        room.limit(0, 1);
        Check.is("a limit was changed", room.steps(), NONE);
        room.pack(7);
        room.axle(3);
        Check.refuses("turn(0, 4)", Check.ARGUMENT, () -> room.turn(0, 4));
        Check.refuses("order(1, 0)", Check.INDEX, () -> room.order(1, 0));
        Check.refuses("limit(0, -1)", Check.ARGUMENT, () -> room.limit(0, -1));
        Check.refuses("piece(0, 1, 1, 1)", Check.ARGUMENT, () -> room.piece(0, 1, 1, 1));
        Check.is("neither an axle nor a refused call", room.steps(), 1);
    }
}
