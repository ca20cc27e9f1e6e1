/** Promise 12: moment. */
public final class MomentTest {

    public static void main(String[] args) {
        Doc.open("Promise 12: moment");
        Doc.says("The MOMENT of what was packed", MomentTest::tellsOfWhatWasPacked);
        Doc.says("0 when nothing was", MomentTest::isNoughtWhenNothingWasPacked);
        Doc.end();
    }

    private static void tellsOfWhatWasPacked() {
        LoadRoom room = Rooms.box(2, 7, 2, Rooms.piece(2, 3, 2, 10));
        room.pack(1000);
        Check.is("one on the floor", room.moment(), 10 * 3);
        room.piece(2, 4, 2, 7);
        room.pack(1000);
        Check.is("one on the other", room.moment(), 10 * 3 + 7 * (6 + 4));
        room.limit(0, 0);
        room.pack(1000);
        Check.is("the other on the one", room.moment(), 7 * 4 + 10 * (8 + 3));
        room.pack(1);
        Check.is("the first alone", room.moment(), 10 * 3);
        LoadRoom left = Rooms.box(1, 1, 1, Rooms.piece(1, 1, 1, 3), Rooms.piece(2, 1, 1, 10000));
        left.pack(1000);
        Check.is("what is left out has none", left.moment(), 3);
        LoadRoom turned = Rooms.box(5, 5, 5, Rooms.piece(2, 5, 3, 6));
        turned.turn(0, 2);
        turned.pack(1000);
        Check.is("it lies on its greatest side", turned.moment(), 6 * 2);
        LoadRoom high = new LoadRoom(1, 200, 1);
        for (int i = 0; i < 8; i++) {
            high.piece(1, 25, 1, 10000);
        }
        high.pack(8);
        Check.is("the highest pile of the heaviest", high.moment(), 10000L * 25 * (1 + 3 + 5 + 7 + 9 + 11 + 13 + 15));
    }

    private static void isNoughtWhenNothingWasPacked() {
        LoadRoom room = new LoadRoom(2, 2, 2);
        Check.is("a new one", room.moment(), 0);
        room.pack(1);
        Check.is("packed without pieces", room.moment(), 0);
        room.piece(1, 1, 1, 5);
        Check.is("a piece came", room.moment(), 0);
        room.pack(1);
        Check.is("packed", room.moment(), 5);
        room.limit(0, 4);
        Check.is("what was packed is gone", room.moment(), 0);
    }
}
