/** Promise 10: bound. */
public final class BoundTest {

    public static void main(String[] args) {
        LoadRoom room = new LoadRoom(2, 3, 4);
        Check.is("no pieces", room.bound(), 0);
        room.piece(1, 2, 3, 1);
        Check.is("one piece", room.bound(), 6);
        room.piece(4, 1, 1, 1);
        Check.is("one that does not fit", room.bound(), 6);
        room.turn(1, 1);
        Check.is("it fits now", room.bound(), 10);
        room.turn(1, 0);
        Check.is("it does not any more", room.bound(), 6);
        room.piece(2, 3, 2, 1);
        Check.is("two that fit", room.bound(), 18);
        room.piece(2, 3, 1, 1);
        Check.is("just the box", room.bound(), 24);
        room.piece(1, 1, 1, 1);
        Check.is("more than the box", room.bound(), 24);
        room.pack(1000);
        Check.is("packed", room.bound(), 24);
        Check.is("it packs nothing", room.steps() == LoadRoom.NONE, false);
        theGreatest();
        Check.end();
    }

    private static void theGreatest() {
        LoadRoom room = new LoadRoom(200, 200, 200);
        for (int i = 0; i < 8; i++) {
            room.piece(200, 200, 200, 1);
            Check.is("greatest pieces: " + i, room.bound(), 8000000);
        }
        LoadRoom small = new LoadRoom(1, 1, 1);
        small.piece(200, 200, 200, 1);
        Check.is("none fits", small.bound(), 0);
    }
}
