/** What it is: the document's first sentence, part by part, each by a room in which that part alone tells. */
public final class WhatItIsTest {

    private static final int NONE = LoadRoom.NONE;

    public static void main(String[] args) {
        Doc.open("What it is", "Loading pieces");
        Doc.says("Loading pieces into a box:", WhatItIsTest::loadsPieces);
        Doc.says("each way of putting them at corners,", WhatItIsTest::triesEachCorner);
        Doc.says("as they may be turned,", WhatItIsTest::turnsThem);
        Doc.says("standing whole,", WhatItIsTest::hasThemStandWhole);
        Doc.says("none bearing too much,", WhatItIsTest::letsNoneBearTooMuch);
        Doc.says("each coming out in its order;", WhatItIsTest::letsThemOutInOrder);
        Doc.says("the greatest volume of these,", WhatItIsTest::packsTheGreatestVolume);
        Doc.says("found by an exact search with steps that can be too few;", WhatItIsTest::tellsTooFewSteps);
        Doc.says("heavy ones low;", WhatItIsTest::putsHeavyOnesLow);
        Doc.says("weights by axles as fractions.", WhatItIsTest::sharesWeights);
        Doc.end();
    }

    private static void loadsPieces() {
        LoadRoom room = Rooms.box(2, 3, 4, Rooms.piece(2, 3, 4, 1), Rooms.piece(2, 4, 3, 1));
        Check.is("pack(1000)", room.pack(1000), 24);
        Check.is("one that is as great as the box is in", room.at(0, 0), 0);
        Check.is("one that is higher is not", room.at(1, 0), NONE);
    }

    /** Either piece is put at the box's corner, and the other one then at each of three corners. */
    private static void triesEachCorner() {
        LoadRoom room = Rooms.ofUnits(3, 1, 3, 2);
        room.pack(1000);
        Check.is("exact()", room.exact(), true);
        Check.is("steps()", room.steps(), 2 * (1 + 3));
    }

    private static void turnsThem() {
        LoadRoom room = Rooms.box(2, 1, 1, Rooms.piece(1, 2, 1, 1));
        Check.is("upright only: pack(1000)", room.pack(1000), 0);
        room.turn(0, 2);
        Check.is("laid too: pack(1000)", room.pack(1000), 2);
        Check.is("laid: at(0, 3)", room.at(0, 3), 2);
    }

    /** The moment would have the wide piece, which is light, lie over the floor's other half. */
    private static void hasThemStandWhole() {
        LoadRoom room = Rooms.box(2, 2, 1, Rooms.piece(1, 1, 1, 9), Rooms.piece(2, 1, 1, 1));
        Check.is("pack(1000)", room.pack(1000), 3);
        Check.is("the wide one is low", room.at(1, 1), 0);
        Check.is("the narrow one is high", room.at(0, 1), 1);
    }

    private static void letsNoneBearTooMuch() {
        LoadRoom room = Rooms.box(1, 2, 1, Rooms.piece(1, 1, 1, 3), Rooms.piece(1, 1, 1, 3));
        room.limit(0, 2);
        room.limit(1, 2);
        Check.is("neither bears the other: pack(1000)", room.pack(1000), 1);
        room.limit(1, 3);
        Check.is("one does: pack(1000)", room.pack(1000), 2);
        Check.is("that one is low", room.at(1, 1), 0);
    }

    private static void letsThemOutInOrder() {
        LoadRoom room = Rooms.ofUnits(1, 1, 2, 2);
        room.order(0, 1);
        room.pack(1000);
        Check.is("the later one is far from the door", room.at(0, 2), 0);
        Check.is("the earlier one is at the door", room.at(1, 2), 1);
        room.order(1, 2);
        room.pack(1000);
        Check.is("now the other is the later one", room.at(1, 2), 0);
        Check.is("and this one is at the door", room.at(0, 2), 1);
    }

    private static void packsTheGreatestVolume() {
        LoadRoom room = Rooms.box(5, 1, 1, Rooms.piece(4, 1, 1, 1), Rooms.piece(3, 1, 1, 1), Rooms.piece(2, 1, 1, 1));
        Check.is("pack(1000)", room.pack(1000), 5);
        Check.is("the longest is left out", room.at(0, 0), NONE);
        LoadRoom one = Rooms.box(4, 1, 1, Rooms.piece(2, 1, 1, 1), Rooms.piece(1, 1, 1, 1), Rooms.piece(4, 1, 1, 9));
        Check.is("one great piece before two small ones: pack(1000)", one.pack(1000), 4);
        Check.is("the small one is left out", one.at(0, 0), NONE);
    }

    private static void tellsTooFewSteps() {
        LoadRoom room = Rooms.box(5, 1, 1, Rooms.piece(4, 1, 1, 1), Rooms.piece(3, 1, 1, 1), Rooms.piece(2, 1, 1, 1));
        Check.is("too few: pack(2)", room.pack(2), 4);
        Check.is("too few: exact()", room.exact(), false);
        Check.is("just enough: pack(5)", room.pack(5), 5);
        Check.is("just enough: exact()", room.exact(), true);
        Check.is("just enough: steps()", room.steps(), 5);
        room.pack(4);
        Check.is("one less: exact()", room.exact(), false);
    }

    private static void putsHeavyOnesLow() {
        LoadRoom room = Rooms.box(1, 3, 1, Rooms.piece(1, 1, 1, 5), Rooms.piece(1, 1, 1, 9), Rooms.piece(1, 1, 1, 7));
        Check.is("pack(1000)", room.pack(1000), 3);
        Check.is("the heaviest", room.at(1, 1), 0);
        Check.is("the next", room.at(2, 1), 1);
        Check.is("the lightest", room.at(0, 1), 2);
    }

    /** It weighs at 1/2, so a sixth of the way to the second axle. */
    private static void sharesWeights() {
        LoadRoom room = Axled.one(1, 4, 0, 3);
        Axled.is(room, 0, 10, 3);
        Axled.is(room, 1, 2, 3);
    }
}
