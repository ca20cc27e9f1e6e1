/** A room in which something was packed, and whether it is so still. */
final class Packed {

    private Packed() {
    }

    /** A low piece on the floor, and a high one that has just its plan on it. */
    static LoadRoom room() {
        LoadRoom room = new LoadRoom(2, 3, 2);
        room.piece(2, 1, 2, 3);
        room.piece(2, 2, 2, 4);
        room.axle(0);
        room.pack(1000);
        isThere(room, "packed");
        return room;
    }

    static void isThere(LoadRoom room, String when) {
        Check.is(when + ": steps()", room.steps(), 4);
        Check.is(when + ": exact()", room.exact(), true);
        Check.is(when + ": moment()", room.moment(), 19);
        Check.is(when + ": at(0, 1)", room.at(0, 1), 0);
        Check.is(when + ": at(1, 1)", room.at(1, 1), 1);
        Check.is(when + ": touch(0, 1)", room.touch(0, 1), 4);
        Check.is(when + ": load(0, 0)", room.load(0, 0), 7);
    }

    static void isGone(LoadRoom room, String when) {
        Check.is(when + ": steps()", room.steps(), LoadRoom.NONE);
        Check.is(when + ": exact()", room.exact(), false);
        Check.is(when + ": moment()", room.moment(), 0);
        for (int what = 0; what < 6; what++) {
            Check.is(when + ": at(1, " + what + ")", room.at(1, what), LoadRoom.NONE);
        }
        Check.is(when + ": touch(0, 1)", room.touch(0, 1), 0);
        Check.is(when + ": load(0, 0)", room.load(0, 0), 0);
        Check.is(when + ": load(0, 1)", room.load(0, 1), 1);
    }
}
