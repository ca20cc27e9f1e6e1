/** Terms: the axles. */
public final class TermsAxlesTest {

    public static void main(String[] args) {
        Doc.open("Terms", "AXLES");
        Doc.says("AXLES are places along the depth,", TermsAxlesTest::areAlongTheDepth);
        Doc.says("6 at most,", TermsAxlesTest::areSixAtMost);
        Doc.says("rising.", TermsAxlesTest::rise);
        Doc.says("Each piece of the best packing weighs", TermsAxlesTest::weighsIfItIsPacked);
        Doc.says("at the middle of its depth.", TermsAxlesTest::weighsAtTheMiddle);
        Doc.says("A weight at a place between two axles goes to both as a lever, the nearer one more;",
                TermsAxlesTest::twoAxlesShareAsALever);
        Doc.says("before the first,", TermsAxlesTest::weightsBeforeTheFirstLiftTheSecond);
        Doc.says("or behind the last one, likewise to the two that are next (one of them is lifted then);",
                TermsAxlesTest::weightsBehindTheLastLiftTheOneBefore);
        Doc.says("with one axle all is its own.", TermsAxlesTest::oneAxleTakesAll);
        Doc.end();
    }

    private static void areAlongTheDepth() {
        for (int axis = 0; axis < 3; axis++) {
            LoadRoom room = Rooms.ofUnits(axis == 0 ? 4 : 1, axis == 1 ? 4 : 1, axis == 2 ? 4 : 1, 4);
            room.pack(4);
            room.axle(0);
            room.axle(8);
            // Four at 1/2, or one at each of 1/2, 1 1/2, 2 1/2, 3 1/2.
            Axled.is(room, 1, 1, axis == 2 ? 1 : 4);
            Axled.is(room, 0, axis == 2 ? 3 : 15, axis == 2 ? 1 : 4);
        }
    }

    private static void areSixAtMost() {
        LoadRoom room = Axled.one(10, 10, 0, 2, 4, 6, 8, 20);
        Check.refuses("a seventh", Check.STATE, () -> room.axle(30));
        Axled.is(room, 0, 0, 1);
        Axled.is(room, 1, 0, 1);
        Axled.is(room, 2, 5, 1);
        Axled.is(room, 3, 5, 1);
        Axled.is(room, 4, 0, 1);
        Axled.is(room, 5, 0, 1);
        Axled.is(Axled.one(200, 4, 0, 2, 4, 6, 98, 102), 4, 2, 1);
        Axled.is(Axled.one(200, 4, 0, 2, 4, 6, 98, 102), 5, 2, 1);
    }

    private static void rise() {
        LoadRoom room = new LoadRoom(1, 1, 1);
        room.axle(7);
        Check.refuses("the same place", Check.ARGUMENT, () -> room.axle(7));
        Check.refuses("a place before", Check.ARGUMENT, () -> room.axle(6));
        Check.is("the next place", room.axle(8), 1);
    }

    private static void weighsIfItIsPacked() {
        LoadRoom room = Rooms.box(1, 1, 4, Rooms.piece(1, 1, 4, 5), Rooms.piece(1, 1, 1, 100));
        room.axle(2);
        Axled.is(room, 0, 0, 1);
        room.pack(1000);
        Axled.is(room, 0, 5, 1);
        room.axle(3);
        Axled.is(room, 0, 5, 1);
        Axled.is(room, 1, 0, 1);
        room.limit(0, 1);
        Axled.is(room, 0, 0, 1);
        Axled.is(room, 1, 0, 1);
        LoadRoom bare = new LoadRoom(1, 1, 1);
        bare.axle(0);
        bare.axle(1);
        bare.pack(1);
        Axled.is(bare, 0, 0, 1);
        Axled.is(bare, 1, 0, 1);
    }

    private static void weighsAtTheMiddle() {
        Axled.is(Axled.one(4, 9, 2, 3), 0, 9, 1);
        Axled.is(Axled.one(5, 8, 2, 3), 0, 4, 1);
        Axled.is(Axled.one(1, 6, 0, 1), 0, 3, 1);
        LoadRoom turned = Rooms.box(1, 1, 6, Rooms.piece(6, 1, 1, 5));
        turned.turn(0, 1);
        turned.pack(1000);
        turned.axle(3);
        turned.axle(9);
        Axled.is(turned, 0, 5, 1);
        LoadRoom nearer = Rooms.box(1, 1, 5, Rooms.piece(1, 1, 1, 4), Rooms.piece(1, 1, 4, 7));
        nearer.pack(1000);
        Check.is("z of the second", nearer.at(1, 2), 1);
        nearer.axle(0);
        nearer.axle(3);
        // 4 at 1/2, 7 at 3.
        Axled.is(nearer, 0, 10, 3);
        Axled.is(nearer, 1, 23, 3);
    }

    private static void twoAxlesShareAsALever() {
        LoadRoom middle = Axled.one(4, 9, 0, 4);
        Axled.is(middle, 0, 9, 2);
        Axled.is(middle, 1, 9, 2);
        LoadRoom nearer = Axled.one(4, 9, 1, 4);
        Axled.is(nearer, 0, 6, 1);
        Axled.is(nearer, 1, 3, 1);
        LoadRoom odd = Axled.one(3, 5, 0, 7);
        Axled.is(odd, 0, 5 * 11, 14);
        Axled.is(odd, 1, 5 * 3, 14);
        LoadRoom first = Axled.one(2, 9, 1, 3, 5);
        Axled.is(first, 0, 9, 1);
        Axled.is(first, 1, 0, 1);
        Axled.is(first, 2, 0, 1);
        LoadRoom second = Axled.one(6, 9, 1, 3, 5);
        Axled.is(second, 0, 0, 1);
        Axled.is(second, 1, 9, 1);
        Axled.is(second, 2, 0, 1);
        LoadRoom last = Axled.one(10, 9, 1, 3, 5);
        Axled.is(last, 0, 0, 1);
        Axled.is(last, 1, 0, 1);
        Axled.is(last, 2, 9, 1);
        // Half a unit before the second axle, and half a unit behind it.
        Axled.is(Axled.one(5, 8, 1, 3, 5), 0, 2, 1);
        Axled.is(Axled.one(5, 8, 1, 3, 5), 1, 6, 1);
        Axled.is(Axled.one(7, 8, 1, 3, 5), 1, 6, 1);
        Axled.is(Axled.one(7, 8, 1, 3, 5), 2, 2, 1);
    }

    private static void weightsBeforeTheFirstLiftTheSecond() {
        LoadRoom two = Axled.one(2, 6, 4, 7);
        Axled.is(two, 0, 12, 1);
        Axled.is(two, 1, -6, 1);
        LoadRoom three = Axled.one(1, 1, 1, 3, 9);
        Axled.is(three, 0, 5, 4);
        Axled.is(three, 1, -1, 4);
        Axled.is(three, 2, 0, 1);
        LoadRoom far = Axled.one(1, 2, 999, 1000);
        Axled.is(far, 0, 2 * 1000 - 1, 1);
        Axled.is(far, 1, -(2 * 999 - 1), 1);
    }

    private static void weightsBehindTheLastLiftTheOneBefore() {
        LoadRoom two = Axled.one(20, 6, 1, 5);
        Axled.is(two, 0, -15, 2);
        Axled.is(two, 1, 27, 2);
        LoadRoom three = Axled.one(200, 1, 10, 20, 50);
        Axled.is(three, 0, 0, 1);
        Axled.is(three, 1, -5, 3);
        Axled.is(three, 2, 8, 3);
        LoadRoom near = Axled.one(11, 2, 1, 3, 5);
        Axled.is(near, 1, -1, 2);
        Axled.is(near, 2, 5, 2);
    }

    private static void oneAxleTakesAll() {
        Axled.is(Axled.one(3, 7, 0), 0, 7, 1);
        Axled.is(Axled.one(3, 7, 1), 0, 7, 1);
        Axled.is(Axled.one(3, 7, 1000), 0, 7, 1);
        LoadRoom two = Rooms.box(1, 1, 5, Rooms.piece(1, 1, 1, 2), Rooms.piece(1, 1, 4, 9));
        two.axle(3);
        two.pack(1000);
        Axled.is(two, 0, 11, 1);
        LoadRoom heavy = new LoadRoom(8, 1, 1);
        for (int i = 0; i < 8; i++) {
            heavy.piece(1, 1, 1, 10000);
        }
        heavy.pack(8);
        heavy.axle(0);
        Axled.is(heavy, 0, 80000, 1);
    }
}
