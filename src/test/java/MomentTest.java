/** Promise 12: moment. */
public final class MomentTest {

    public static void main(String[] args) {
        LoadRoom room = new LoadRoom(2, 7, 2);
        Check.is("a new one", room.moment(), 0);
        room.pack(1);
        Check.is("packed without pieces", room.moment(), 0);
        room.piece(2, 3, 2, 10);
        Check.is("a piece came", room.moment(), 0);
        room.pack(1000);
        Check.is("one on the floor", room.moment(), 10 * 3);
        room.piece(2, 4, 2, 7);
        room.pack(1000);
        Check.is("one on the other", room.moment(), 10 * 3 + 7 * (6 + 4));
        room.limit(0, 0);
        room.pack(1000);
        Check.is("the other on the one", room.moment(), 7 * 4 + 10 * (8 + 3));
        room.turn(0, 0);
        Check.is("what was packed is gone", room.moment(), 0);
        turnedHeightsCount();
        theGreatest();
        Check.end();
    }

    private static void turnedHeightsCount() {
        LoadRoom room = new LoadRoom(5, 5, 5);
        room.piece(2, 5, 3, 6);
        room.turn(0, 2);
        room.pack(1000);
        Check.is("it lies on its least side", room.moment(), 6 * 2);
        Check.is("by turn 2", room.at(0, 3), 2);
    }

    private static void theGreatest() {
        LoadRoom room = new LoadRoom(200, 200, 200);
        for (int i = 0; i < 8; i++) {
            room.piece(25, 200, 200, 10000);
        }
        room.pack(8);
        Check.is("eight of the heaviest", room.moment(), 8L * 10000 * 200);
    }
}
