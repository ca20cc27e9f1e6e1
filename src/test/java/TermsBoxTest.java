/** Terms: the box and the pieces. */
public final class TermsBoxTest {

    public static void main(String[] args) {
        Doc.open("Terms", "THE BOX");
        Doc.says("THE BOX has a width, a height and a depth (axes 0, 1, 2; numbers from 0 on)",
                TermsBoxTest::axesHaveTheirNumbers);
        Doc.says("its door is the face at the greatest depth", TermsBoxTest::theDoorIsAtTheGreatestDepth);
        Doc.says("PIECES are 0 .. 7, as they come", TermsBoxTest::piecesHaveTheirNumbers);
        Doc.says("each with a width, a height, a depth, a WEIGHT, MARKS, a STOP and a LIMIT",
                TermsBoxTest::piecesHaveTheirOwn);
        Doc.end();
    }

    /** In a box of length 2 on one axis the second of two units is at 1 there. */
    private static void axesHaveTheirNumbers() {
        for (int axis = 0; axis < 3; axis++) {
            LoadRoom room = Rooms.ofUnits(axis == 0 ? 2 : 1, axis == 1 ? 2 : 1, axis == 2 ? 2 : 1, 2);
            Check.is("axis " + axis + ": both go in", room.pack(1000), 2);
            for (int what = 0; what < 3; what++) {
                Check.is("axis " + axis + ": at(0, " + what + ")", room.at(0, what), 0);
                Check.is("axis " + axis + ": at(1, " + what + ")", room.at(1, what), what == axis ? 1 : 0);
            }
        }
    }

    private static void theDoorIsAtTheGreatestDepth() {
        LoadRoom room = Rooms.ofUnits(1, 1, 2, 2);
        room.order(0, 1);
        room.pack(1000);
        Check.is("the last one to leave is at depth 0", room.at(0, 2), 0);
        room.order(1, 2);
        room.pack(1000);
        Check.is("now the other one is", room.at(1, 2), 0);
    }

    private static void piecesHaveTheirNumbers() {
        LoadRoom room = new LoadRoom(4, 1, 1);
        for (int i = 0; i < 8; i++) {
            Check.is("piece " + i, room.piece(i + 1, 1, 1, 1), i);
        }
        for (int i = 0; i < 8; i++) {
            Check.is("fits(" + i + ")", room.fits(i), i < 4 ? 1 : 0);
        }
        Check.refuses("there is no piece -1", Check.INDEX, () -> room.fits(-1));
        Check.refuses("there is no piece 8", Check.INDEX, () -> room.fits(8));
    }

    private static void piecesHaveTheirOwn() {
        LoadRoom room = Rooms.box(6, 6, 6, Rooms.piece(1, 2, 3, 10), Rooms.piece(3, 2, 2, 20), Rooms.piece(7, 1, 1, 1));
        Check.is("volumes: bound()", room.bound(), 6 + 12);
        room.turn(1, 3);
        room.order(1, 9);
        room.limit(1, 5);
        int[] others = {0, 2};
        for (int piece : others) {
            Check.is("marks of " + piece, room.turn(piece, 0), 0);
            Check.is("stop of " + piece, room.order(piece, 0), 0);
            Check.is("limit of " + piece, room.limit(piece, 100000), 100000);
        }
        Check.is("marks of 1", room.turn(1, 0), 3);
        Check.is("stop of 1", room.order(1, 0), 9);
        Check.is("limit of 1", room.limit(1, 0), 5);
        room.pack(1000);
        Check.is("weights and heights: moment()", room.moment(), 10 * 2 + 20 * 2);
    }
}
