/** Rooms with axles, and what weighs on these. */
final class Axled {

    private Axled() {
    }

    static void is(LoadRoom room, int axle, long above, long below) {
        Check.is("load(" + axle + ", 0)", room.load(axle, 0), above);
        Check.is("load(" + axle + ", 1)", room.load(axle, 1), below);
    }

    /** One packed piece that begins at depth 0, so that it weighs at half its depth. */
    static LoadRoom one(int depth, int weight, int... places) {
        LoadRoom room = Rooms.box(1, 1, 200, Rooms.piece(1, 1, depth, weight));
        room.pack(1000);
        for (int place : places) {
            room.axle(place);
        }
        return room;
    }
}
