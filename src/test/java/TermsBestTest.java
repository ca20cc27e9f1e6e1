/** Terms: the best packing. */
public final class TermsBestTest {

    private static final int NONE = LoadRoom.NONE;

    public static void main(String[] args) {
        Doc.open("Terms", "THE BEST");
        Doc.says("THE BEST packing has the greatest VOLUME (that of all its pieces);",
                TermsBestTest::hasTheGreatestVolume);
        Doc.says("of those the least MOMENT:", TermsBestTest::hasTheLeastMomentThen);
        Doc.says("the sum of weight times (twice y and the height);", TermsBestTest::momentsCountYTwiceAndTheHeight);
        Doc.says("of those the one that is MET first.", TermsBestTest::isMetFirstThen);
        Doc.end();
    }

    private static void hasTheGreatestVolume() {
        LoadRoom room = Rooms.box(3, 1, 1, Rooms.piece(1, 1, 1, 1), Rooms.piece(3, 1, 1, 9), Rooms.piece(1, 1, 1, 1));
        Check.is("one great piece, not two small ones", room.pack(1000), 3);
        Check.is("the great one", room.at(1, 0), 0);
        Check.is("not the first", room.at(0, 0), NONE);
        Check.is("not the last", room.at(2, 0), NONE);
        LoadRoom two = Rooms.box(4, 1, 1, Rooms.piece(3, 1, 1, 1), Rooms.piece(2, 1, 1, 9), Rooms.piece(2, 1, 1, 9));
        Check.is("two small pieces, not the great one, though they are heavy", two.pack(1000), 4);
        Check.is("the great one is left out", two.at(0, 0), NONE);
        LoadRoom one = Rooms.box(1, 2, 1, Rooms.piece(1, 1, 1, 1), Rooms.piece(1, 2, 1, 10000));
        Check.is("1 more counts more than any moment", one.pack(1000), 2);
        Check.is("the heavy one", one.at(1, 0), 0);
    }

    private static void hasTheLeastMomentThen() {
        LoadRoom room = Rooms.box(1, 2, 1, Rooms.piece(1, 1, 1, 1), Rooms.piece(1, 1, 1, 2));
        room.pack(1000);
        Check.is("the heavy one is low", room.at(1, 1), 0);
        Check.is("the light one is high", room.at(0, 1), 1);
        Check.is("moment()", room.moment(), 2 * 1 + 1 * 3);
        LoadRoom light = Rooms.box(1, 1, 1, Rooms.piece(1, 1, 1, 3), Rooms.piece(1, 1, 1, 2), Rooms.piece(1, 1, 1, 3));
        light.pack(1000);
        Check.is("of three alike the lightest", light.at(1, 0), 0);
        LoadRoom flat = Rooms.box(2, 2, 2, Rooms.piece(1, 2, 2, 5));
        flat.turn(0, 3);
        flat.pack(1000);
        Check.is("it lies flat", flat.at(0, 3), 2);
        Check.is("moment() of it", flat.moment(), 5);
    }

    /**
     * Piece 2 is of two units. It stands beside the two others, one of which is on the other, if that is
     * 2 * 1 + 1 * 3 + 3 * 2 = 11; it lies on them for 2 + 1 + 3 * 3 = 12, and under them for 3 + 2 * 3 + 3 = 12.
     */
    private static void momentsCountYTwiceAndTheHeight() {
        LoadRoom room = Rooms.box(2, 2, 1, Rooms.piece(1, 1, 1, 2), Rooms.piece(1, 1, 1, 1), Rooms.piece(2, 1, 1, 3));
        room.turn(2, 2);
        Check.is("the box is full", room.pack(1000), 4);
        Check.is("moment()", room.moment(), 11);
        Check.is("it stands", room.at(2, 3), 2);
        LoadRoom light = Rooms.box(2, 2, 1, Rooms.piece(1, 1, 1, 2), Rooms.piece(1, 1, 1, 1), Rooms.piece(2, 1, 1, 1));
        light.turn(2, 2);
        light.pack(1000);
        Check.is("a lighter one lies on them: moment()", light.moment(), 2 + 1 + 3);
        LoadRoom heavy = Rooms.box(2, 2, 1, Rooms.piece(1, 1, 1, 2), Rooms.piece(1, 1, 1, 1), Rooms.piece(2, 1, 1, 9));
        heavy.turn(2, 2);
        heavy.pack(1000);
        Check.is("a heavier one lies under them: moment()", heavy.moment(), 9 + 2 * 3 + 3);
    }

    private static void isMetFirstThen() {
        LoadRoom pile = Rooms.box(1, 2, 1, Rooms.piece(1, 1, 1, 2), Rooms.piece(1, 1, 1, 2));
        pile.pack(1000);
        Check.is("the first is low", pile.at(0, 1), 0);
        Check.is("the second is high", pile.at(1, 1), 1);
        LoadRoom three = Rooms.ofUnits(2, 1, 1, 3);
        three.pack(1000);
        Check.is("of three the first two", three.at(2, 0), NONE);
        Check.is("the first of them", three.at(0, 0), 0);
        Check.is("the second of them", three.at(1, 0), 1);
        LoadRoom turned = Rooms.box(2, 1, 2, Rooms.piece(2, 1, 1, 1));
        turned.turn(0, 1);
        turned.pack(1000);
        Check.is("the first turn", turned.at(0, 3), 0);
        // One stands beside the pile of two, lies on both, or lies under both: 8 each time.
        LoadRoom equal = Rooms.box(2, 2, 1, Rooms.piece(1, 1, 1, 1), Rooms.piece(1, 1, 1, 1), Rooms.piece(2, 1, 1, 2));
        equal.turn(2, 2);
        equal.pack(1000);
        Check.is("three ways of one moment", equal.moment(), 8);
        Check.is("the first: it lies", equal.at(2, 3), 0);
        Check.is("the first: on both", equal.at(2, 1), 1);
    }
}
