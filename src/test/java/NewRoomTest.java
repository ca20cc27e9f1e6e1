/** Promise 1: a new object. */
public final class NewRoomTest {

    public static void main(String[] args) {
        Doc.open("Promise 1: A new object");
        Doc.says("A box", NewRoomTest::eachAxisHasItsLength);
        Doc.says("each number below 1 counts as 1", NewRoomTest::smallNumbersCountAsOne);
        Doc.says("above 200 as 200", NewRoomTest::greatNumbersCountAsTwoHundred);
        Doc.says("no pieces", NewRoomTest::hasNoPieces);
        Doc.says("no axles", NewRoomTest::hasNoAxles);
        Doc.says("nothing was packed", NewRoomTest::packedNothing);
        Doc.end();
    }

    /** A piece fits if it is as great as the box, and does not if it is greater on one axis. */
    private static void eachAxisHasItsLength() {
        LoadRoom room = new LoadRoom(4, 5, 6);
        room.piece(4, 5, 6, 1);
        room.piece(5, 1, 1, 1);
        room.piece(1, 6, 1, 1);
        room.piece(1, 1, 7, 1);
        Check.is("fits, as great as the box", room.fits(0), 1);
        Check.is("fits, too wide", room.fits(1), 0);
        Check.is("fits, too high", room.fits(2), 0);
        Check.is("fits, too deep", room.fits(3), 0);
        Check.is("bound()", room.bound(), 120);
    }

    private static LoadRoom boxOf(int axis, int length, int others) {
        return new LoadRoom(axis == 0 ? length : others, axis == 1 ? length : others, axis == 2 ? length : others);
    }

    private static int fits(LoadRoom room, int axis, int length) {
        return room.fits(room.piece(axis == 0 ? length : 1, axis == 1 ? length : 1, axis == 2 ? length : 1, 1));
    }

    private static void smallNumbersCountAsOne() {
        int[] small = {1, 0, -1, -200, Integer.MIN_VALUE};
        for (int axis = 0; axis < 3; axis++) {
            for (int length : small) {
                String box = "axis " + axis + " of " + length;
                Check.is(box + ": a piece of 1 fits", fits(boxOf(axis, length, 3), axis, 1), 1);
                Check.is(box + ": a piece of 2 fits", fits(boxOf(axis, length, 3), axis, 2), 0);
            }
            Check.is("axis " + axis + " of 2: a piece of 2 fits", fits(boxOf(axis, 2, 3), axis, 2), 1);
        }
        LoadRoom least = new LoadRoom(0, -1, Integer.MIN_VALUE);
        least.piece(1, 1, 1, 1);
        Check.is("all three: a piece of 1 is packed", least.pack(1), 1);
    }

    private static void greatNumbersCountAsTwoHundred() {
        int[] great = {200, 201, 1000, Integer.MAX_VALUE};
        for (int axis = 0; axis < 3; axis++) {
            for (int length : great) {
                String box = "axis " + axis + " of " + length;
                LoadRoom room = boxOf(axis, length, 1);
                Check.is(box + ": a piece of 200 fits", fits(room, axis, 200), 1);
                Check.is(box + ": a second one fits", fits(room, axis, 200), 1);
                Check.is(box + ": bound() is the box's volume", room.bound(), 200);
                Check.is(box + ": one of them is packed", room.pack(1000), 200);
            }
            Check.is("axis " + axis + " of 199: a piece of 200 fits", fits(boxOf(axis, 199, 1), axis, 200), 0);
            Check.is("axis " + axis + " of 199: a piece of 199 fits", fits(boxOf(axis, 199, 1), axis, 199), 1);
        }
    }

    private static void hasNoPieces() {
        LoadRoom room = new LoadRoom(4, 5, 6);
        Check.refuses("turn(0, 0)", Check.INDEX, () -> room.turn(0, 0));
        Check.refuses("order(0, 0)", Check.INDEX, () -> room.order(0, 0));
        Check.refuses("limit(0, 0)", Check.INDEX, () -> room.limit(0, 0));
        Check.refuses("fits(0)", Check.INDEX, () -> room.fits(0));
        Check.refuses("at(0, 0)", Check.INDEX, () -> room.at(0, 0));
        Check.refuses("touch(0, 0)", Check.INDEX, () -> room.touch(0, 0));
        Check.is("bound()", room.bound(), 0);
        Check.is("the first piece", room.piece(1, 1, 1, 1), 0);
    }

    private static void hasNoAxles() {
        LoadRoom room = new LoadRoom(4, 5, 6);
        Check.refuses("load(0, 0)", Check.ARITHMETIC, () -> room.load(0, 0));
        Check.is("the first axle, at the least place", room.axle(0), 0);
    }

    private static void packedNothing() {
        LoadRoom room = new LoadRoom(4, 5, 6);
        Check.is("exact()", room.exact(), false);
        Check.is("steps()", room.steps(), LoadRoom.NONE);
        Check.is("moment()", room.moment(), 0);
        room.axle(0);
        Check.is("load(0, 0)", room.load(0, 0), 0);
        Check.is("load(0, 1)", room.load(0, 1), 1);
    }
}
