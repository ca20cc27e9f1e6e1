/** Promise 10: bound. */
public final class BoundTest {

    public static void main(String[] args) {
        Doc.open("Promise 10: bound");
        Doc.says("The least of the box's volume,", BoundTest::isTheBoxAtMost);
        Doc.says("and that of all pieces which fit.", BoundTest::countsPiecesThatFit);
        Doc.end();
    }

    private static void isTheBoxAtMost() {
        LoadRoom room = Rooms.box(2, 3, 4, Rooms.piece(2, 3, 3, 1), Rooms.piece(1, 1, 5, 1), Rooms.piece(1, 1, 4, 1));
        Check.is("2 less than the box", room.bound(), 22);
        room.piece(1, 1, 2, 1);
        Check.is("just the box", room.bound(), 24);
        room.piece(1, 1, 1, 1);
        Check.is("1 more than the box", room.bound(), 24);
        room.pack(1);
        Check.is("packed", room.bound(), 24);
        Check.is("what was packed is there", room.steps(), 1);
        LoadRoom great = new LoadRoom(200, 200, 200);
        for (int i = 0; i < 8; i++) {
            great.piece(200, 200, 200, 1);
            Check.is("greatest pieces: " + i, great.bound(), 8000000);
        }
    }

    private static void countsPiecesThatFit() {
        LoadRoom room = new LoadRoom(2, 3, 4);
        Check.is("no pieces", room.bound(), 0);
        room.piece(4, 1, 1, 1);
        Check.is("one that does not fit", room.bound(), 0);
        room.piece(1, 2, 3, 1);
        Check.is("one that fits", room.bound(), 6);
        room.turn(0, 1);
        Check.is("the other fits now, though in its second turn alone", room.bound(), 10);
        room.turn(1, 3);
        Check.is("one that fits in several turns counts once", room.bound(), 10);
        room.turn(0, 0);
        Check.is("the other does not fit any more", room.bound(), 6);
        LoadRoom small = new LoadRoom(1, 1, 1);
        for (int i = 0; i < 8; i++) {
            small.piece(200, 200, 200, 1);
        }
        Check.is("none fits", small.bound(), 0);
    }
}
