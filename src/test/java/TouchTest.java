/** Promise 13: touch. */
public final class TouchTest {

    public static void main(String[] args) {
        Doc.open("Promise 13: touch");
        Doc.says("How many square units", TouchTest::countsSquareUnits);
        Doc.says("the upper face of the one and the lower face of the other piece", TouchTest::asksForLowerAndUpper);
        Doc.says("touch", TouchTest::mustTouch);
        Doc.says("in what was packed", TouchTest::tellsOfTheLatestPacking);
        Doc.says("0 if one is left out", TouchTest::isNoughtIfOneIsLeftOut);
        Doc.says("IndexOutOfBoundsException", TouchTest::refusesNoPieces);
        Doc.end();
    }

    /** Three piers of one height under one plate (3), and a smaller one (4) on that. */
    private static LoadRoom piers() {
        LoadRoom room = Rooms.box(3, 4, 3, Rooms.piece(1, 2, 3, 9), Rooms.piece(2, 2, 1, 9),
                Rooms.piece(2, 2, 2, 9), Rooms.piece(3, 1, 3, 3), Rooms.piece(2, 1, 2, 1));
        Check.is("pack(5)", room.pack(5), 31);
        return room;
    }

    private static void countsSquareUnits() {
        LoadRoom room = piers();
        Check.is("the first pier", room.touch(0, 3), 3);
        Check.is("the second pier", room.touch(1, 3), 2);
        Check.is("the third pier", room.touch(2, 3), 4);
        Check.is("the plate and a smaller one on it", room.touch(3, 4), 4);
        LoadRoom great = Rooms.box(200, 2, 200, Rooms.piece(200, 1, 200, 1), Rooms.piece(200, 1, 200, 1));
        great.pack(2);
        Check.is("the greatest faces", great.touch(0, 1), 40000);
    }

    private static void asksForLowerAndUpper() {
        LoadRoom room = piers();
        for (int pier = 0; pier < 3; pier++) {
            Check.is("the plate is not under pier " + pier, room.touch(3, pier), 0);
        }
        Check.is("nor the smaller one under the plate", room.touch(4, 3), 0);
        for (int piece = 0; piece < 5; piece++) {
            Check.is("nor a piece under itself", room.touch(piece, piece), 0);
        }
    }

    /** Faces at one height that have just an edge or a corner in common do not touch, nor do others. */
    private static void mustTouch() {
        LoadRoom room = piers();
        Check.is("side by side", room.touch(0, 1), 0);
        Check.is("one over another, but not on it", room.touch(0, 4), 0);
        LoadRoom edge = Rooms.ofUnits(2, 2, 2, 5);
        Check.is("four on the floor, one above", edge.pack(5), 5);
        Check.is("the fifth is on the first", edge.touch(0, 4), 1);
        Check.is("an edge along the depth", edge.touch(1, 4), 0);
        Check.is("an edge along the width", edge.touch(2, 4), 0);
        Check.is("a corner", edge.touch(3, 4), 0);
        for (int axis = 0; axis < 3; axis += 2) {
            LoadRoom row = Rooms.ofUnits(axis == 0 ? 3 : 1, 2, axis == 2 ? 3 : 1, 6);
            Check.is("three on three: pack(6)", row.pack(6), 6);
            for (int lower = 0; lower < 3; lower++) {
                for (int upper = 3; upper < 6; upper++) {
                    Check.is("axis " + axis + ": touch(" + lower + ", " + upper + ")", row.touch(lower, upper),
                            lower == upper - 3 ? 1 : 0);
                }
            }
        }
    }

    private static void tellsOfTheLatestPacking() {
        LoadRoom room = Rooms.box(1, 2, 1, Rooms.piece(1, 1, 1, 1), Rooms.piece(1, 1, 1, 2));
        Check.is("nothing was packed: touch(0, 1)", room.touch(0, 1), 0);
        room.pack(2);
        Check.is("two steps: touch(0, 1)", room.touch(0, 1), 1);
        Check.is("two steps: touch(1, 0)", room.touch(1, 0), 0);
        room.pack(4);
        Check.is("four steps: touch(0, 1)", room.touch(0, 1), 0);
        Check.is("four steps: touch(1, 0)", room.touch(1, 0), 1);
        room.order(0, 0);
        Check.is("nothing any more: touch(1, 0)", room.touch(1, 0), 0);
    }

    private static void isNoughtIfOneIsLeftOut() {
        LoadRoom room = Rooms.box(1, 1, 1, Rooms.piece(1, 1, 1, 1), Rooms.piece(1, 1, 1, 1), Rooms.piece(2, 1, 1, 1));
        room.pack(1000);
        Check.is("the upper one is left out", room.touch(0, 1), 0);
        Check.is("the lower one is left out", room.touch(1, 0), 0);
        Check.is("both are left out", room.touch(1, 2), 0);
        Check.is("one that is left out and itself", room.touch(2, 2), 0);
    }

    private static void refusesNoPieces() {
        LoadRoom room = Packed.room();
        int[] noPieces = {-1, 2, 7, 8, Integer.MIN_VALUE, Integer.MAX_VALUE};
        for (int piece : noPieces) {
            Check.refuses("touch(" + piece + ", 0)", Check.INDEX, () -> room.touch(piece, 0));
            Check.refuses("touch(0, " + piece + ")", Check.INDEX, () -> room.touch(0, piece));
            Check.refuses("touch(" + piece + ", " + piece + ")", Check.INDEX, () -> room.touch(piece, piece));
        }
        Packed.isThere(room, "refused");
        room.turn(0, 0);
        Check.refuses("nothing was packed: touch(0, 2)", Check.INDEX, () -> room.touch(0, 2));
        Check.refuses("nothing was packed: touch(2, 0)", Check.INDEX, () -> room.touch(2, 0));
        LoadRoom full = Rooms.ofUnits(1, 1, 1, 8);
        Check.is("the eighth piece: touch(7, 7)", full.touch(7, 7), 0);
        Check.refuses("eight pieces: touch(7, 8)", Check.INDEX, () -> full.touch(7, 8));
        Check.refuses("eight pieces: touch(8, 7)", Check.INDEX, () -> full.touch(8, 7));
    }
}
