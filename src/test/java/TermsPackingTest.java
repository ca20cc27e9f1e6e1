/** Terms: what a packing is. */
public final class TermsPackingTest {

    public static void main(String[] args) {
        Doc.open("Terms", "A PACKING");
        Doc.says("A PACKING is a row of pieces, each once,", TermsPackingTest::hasEachPieceOnce);
        Doc.says("each with a turn and a PLACE (x, y, z), where its least width, height and depth are.",
                TermsPackingTest::hasTurnsAndPlaces);
        Doc.says("Piece by piece: x is 0 or the right end (x and width) of a piece before it in the row,",
                TermsPackingTest::beginsAtRightEnds);
        Doc.says("y 0 or the upper end of one,", TermsPackingTest::beginsAtUpperEnds);
        Doc.says("z 0 or the end nearer to the door of one;", TermsPackingTest::beginsAtEndsNearerToTheDoor);
        Doc.says("PLACES rise along the row: of two y, then z, then x tells.", TermsPackingTest::placesRise);
        Doc.says("It is in the box,", TermsPackingTest::isInTheBox);
        Doc.says("and shares no room with another one;", TermsPackingTest::sharesNoRoom);
        Doc.says("it STANDS: on the floor (y is 0),", TermsPackingTest::standsOnTheFloor);
        Doc.says("or each part of its lower face lies on an upper face of another one.",
                TermsPackingTest::standsOnUpperFaces);
        Doc.says("No piece bears more than its LIMIT:", TermsPackingTest::bearsItsLimitAtMost);
        Doc.says("all weights together of the pieces that are wholly above its upper face (or at it)",
                TermsPackingTest::bearsAllThatIsAbove);
        Doc.says("and over some part of its plan (width and depth).", TermsPackingTest::bearsWhatIsOverItsPlan);
        Doc.says("Each piece can COME OUT: no piece of a greater STOP is", TermsPackingTest::greaterStopsShutIn);
        Doc.says("wholly nearer to the door (or at that face)", TermsPackingTest::nearerPiecesShutIn);
        Doc.says("and before some part of its face (width and height).", TermsPackingTest::piecesBeforeItShutIn);
        Doc.end();
    }

    private static int[] unit(int weight) {
        return Rooms.piece(1, 1, 1, weight);
    }

    /** A box, or a piece, of so great a length on one axis, and of 1 on the others. */
    private static int[] along(int axis, int length) {
        return Rooms.piece(axis == 0 ? length : 1, axis == 1 ? length : 1, axis == 2 ? length : 1, 1);
    }

    private static LoadRoom roomAlong(int axis, int length, int... pieces) {
        int[] box = along(axis, length);
        LoadRoom room = new LoadRoom(box[0], box[1], box[2]);
        for (int piece : pieces) {
            int[] it = along(axis, piece);
            room.piece(it[0], it[1], it[2], it[3]);
        }
        return room;
    }

    private static void hasEachPieceOnce() {
        LoadRoom room = Rooms.ofUnits(3, 1, 1, 1);
        Check.is("one piece, room for three: pack(1000)", room.pack(1000), 1);
        Check.is("one piece, room for three: steps()", room.steps(), 1);
        LoadRoom two = Rooms.ofUnits(4, 1, 1, 2);
        Check.is("two pieces, room for four: pack(1000)", two.pack(1000), 2);
        Check.is("two pieces, room for four: steps()", two.steps(), 4);
    }

    /** The first stands at the left, the second lies beside it, and the third, turned, on that. */
    private static void hasTurnsAndPlaces() {
        LoadRoom room = Rooms.box(3, 2, 2, Rooms.piece(1, 2, 2, 9), Rooms.piece(2, 1, 2, 5), Rooms.piece(1, 2, 2, 1));
        room.turn(2, 2);
        Check.is("the box is full", room.pack(1000), 12);
        int[][] due = {{0, 0, 0, 0}, {1, 0, 0, 0}, {1, 1, 0, 2}};
        for (int piece = 0; piece < 3; piece++) {
            for (int what = 0; what < 4; what++) {
                Check.is("at(" + piece + ", " + what + ")", room.at(piece, what), due[piece][what]);
            }
        }
    }

    private static void beginsAtRightEnds() {
        LoadRoom row = roomAlong(0, 5, 2, 1);
        row.pack(1000);
        Check.is("the second is at the first one's end, never farther: x", row.at(1, 0), 2);
        Check.is("the second is at the first one's end, never farther: steps()", row.steps(), 4);
        // Two alone; behind the short one the long one beside it, before it, and before beside it; behind the long
        // one the short one beside it, before it, and before beside it, but not before its second half.
        LoadRoom floor = Rooms.box(3, 1, 2, unit(1), Rooms.piece(2, 1, 1, 1));
        floor.pack(1000);
        Check.is("three by two: steps()", floor.steps(), 2 + 3 + 3);
        // The third begins where the first ends: at 0 it would shut that in, and 3 is outside.
        LoadRoom first = Rooms.box(3, 1, 2, unit(1), Rooms.piece(2, 1, 1, 1), Rooms.piece(2, 1, 1, 1));
        first.order(1, 1);
        first.order(2, 1);
        Check.is("not just the last one's end: pack(1000)", first.pack(1000), 5);
        Check.is("not just the last one's end: x", first.at(2, 0), 1);
        Check.is("not just the last one's end: z", first.at(2, 2), 1);
        // Rows of one, of two units, of a unit and the long one; the long one as third, second and first of three.
        // A unit can't be at 2 if only the long one ends there, and that comes later in the row.
        LoadRoom later = Rooms.box(3, 1, 2, unit(1), unit(1), Rooms.piece(2, 1, 1, 1));
        later.pack(1000);
        Check.is("not a later one's end: steps()", later.steps(), 3 + 6 + 12 + 6 + 6 + 8);
        // Six in a row; of the last two one is before the other, at the sixth one's end and not at the seventh's.
        LoadRoom eight = new LoadRoom(7, 1, 2);
        for (int i = 0; i < 8; i++) {
            eight.piece(1, 1, i < 6 ? 2 : 1, 1);
        }
        Check.is("eight pieces: pack(8)", eight.pack(8), 14);
        Check.is("eight pieces: x of the last", eight.at(7, 0), 6);
    }

    private static void beginsAtUpperEnds() {
        LoadRoom pile = roomAlong(1, 5, 2, 1);
        pile.pack(1000);
        Check.is("one is at the other one's end: steps()", pile.steps(), 4);
        Check.is("the high one is at the low one's end: y", pile.at(0, 1), 1);
        pile.limit(1, 0);
        pile.pack(1000);
        Check.is("the low one is at the high one's end: y", pile.at(1, 1), 2);
        // The first bears none, so that the third is on the second, whose end is lower.
        LoadRoom two = Rooms.box(2, 3, 1, Rooms.piece(1, 2, 1, 5), unit(5), unit(1));
        two.limit(0, 0);
        Check.is("not just the highest end: pack(1000)", two.pack(1000), 4);
        Check.is("not just the highest end: y", two.at(2, 1), 1);
        LoadRoom eight = new LoadRoom(2, 7, 1);
        for (int i = 0; i < 8; i++) {
            eight.piece(i < 6 ? 2 : 1, 1, 1, 1);
        }
        Check.is("eight pieces: pack(8)", eight.pack(8), 14);
        Check.is("eight pieces: y of the last", eight.at(7, 1), 6);
    }

    private static void beginsAtEndsNearerToTheDoor() {
        LoadRoom row = roomAlong(2, 5, 2, 1);
        row.pack(1000);
        Check.is("the second is at the first one's end, never nearer to the door: z", row.at(1, 2), 2);
        Check.is("the second is at the first one's end, never nearer to the door: steps()", row.steps(), 4);
        // As with the right ends, but the other way round.
        LoadRoom floor = Rooms.box(2, 1, 3, unit(1), Rooms.piece(1, 1, 2, 1));
        floor.pack(1000);
        Check.is("two by three: steps()", floor.steps(), 2 + 3 + 3);
        // The third begins where the first ends, beside the second.
        LoadRoom first = Rooms.box(2, 1, 3, unit(1), Rooms.piece(1, 1, 3, 1), Rooms.piece(1, 1, 2, 1));
        Check.is("not just the last one's end: pack(1000)", first.pack(1000), 6);
        Check.is("not just the last one's end: z", first.at(2, 2), 1);
        LoadRoom eight = new LoadRoom(2, 1, 7);
        for (int i = 0; i < 8; i++) {
            eight.piece(i < 6 ? 2 : 1, 1, 1, 1);
        }
        Check.is("eight pieces: pack(8)", eight.pack(8), 14);
        Check.is("eight pieces: z of the last", eight.at(7, 2), 6);
    }

    private static void placesRise() {
        LoadRoom floor = Rooms.ofUnits(2, 1, 2, 4);
        floor.pack(1000);
        Check.is("four on two by two: steps()", floor.steps(), 4 + 12 * 3 + 24 * 3 + 24);
        // Three of four places, two high and two deep; an upper one needs the one below it.
        LoadRoom side = Rooms.ofUnits(1, 2, 2, 3);
        side.pack(1000);
        Check.is("three on two by two, high: steps()", side.steps(), 3 + 6 * 2 + 6 * 2);
        LoadRoom all = Rooms.ofUnits(2, 2, 2, 8);
        all.pack(8);
        for (int i = 0; i < 8; i++) {
            Check.is("number in the row of the piece at the place " + i, all.at(i, 4), i);
            Check.is("its x, y and z", 4 * all.at(i, 1) + 2 * all.at(i, 2) + all.at(i, 0), i);
        }
        LoadRoom pile = Rooms.box(1, 2, 1, unit(1), unit(2));
        pile.pack(1000);
        Check.is("the lower one is before the higher one", pile.at(1, 4), 0);
        Check.is("the higher one is behind it", pile.at(0, 4), 1);
    }

    private static void isInTheBox() {
        for (int axis = 0; axis < 3; axis++) {
            String name = "axis " + axis + ": ";
            Check.is(name + "as long as the box", roomAlong(axis, 3, 3).pack(1000), 3);
            Check.is(name + "1 longer", roomAlong(axis, 3, 4).pack(1000), 0);
            Check.is(name + "two that end with the box", roomAlong(axis, 3, 2, 1).pack(1000), 3);
            Check.is(name + "two that are 1 longer than the box", roomAlong(axis, 3, 2, 2).pack(1000), 2);
            Check.is(name + "as long as the greatest box", roomAlong(axis, 200, 200, 1).pack(1000), 200);
            Check.is(name + "two that end with the greatest box", roomAlong(axis, 200, 199, 1).pack(1000), 200);
        }
    }

    private static void sharesNoRoom() {
        LoadRoom one = Rooms.ofUnits(1, 1, 1, 2);
        Check.is("room for one: pack(1000)", one.pack(1000), 1);
        Check.is("room for one: steps()", one.steps(), 2);
        for (int axis = 0; axis < 3; axis++) {
            Check.is("axis " + axis + ": they may touch", roomAlong(axis, 2, 1, 1).pack(1000), 2);
        }
        // The second is two deep: it can't be before the first, and the third can't be before the second.
        LoadRoom floor = Rooms.box(3, 1, 2, Rooms.piece(2, 1, 1, 1), Rooms.piece(1, 1, 2, 1), Rooms.piece(2, 1, 1, 1));
        Check.is("three on a floor: pack(3)", floor.pack(3), 6);
        Check.is("x of the second", floor.at(1, 0), 2);
        Check.is("x of the third", floor.at(2, 0), 0);
        Check.is("z of the third", floor.at(2, 2), 1);
        // Beside the unit the second is as deep as the box; the third would cross it, and has none of its corners.
        LoadRoom cross = Rooms.box(3, 1, 3, unit(1), Rooms.piece(1, 1, 3, 1), Rooms.piece(3, 1, 1, 1));
        Check.is("a cross: pack(1000)", cross.pack(1000), 4);
        // The third is on the first one's inner or left part, with a gap up to the high second one.
        LoadRoom deep = Rooms.box(1, 2, 3, Rooms.piece(1, 1, 2, 9), Rooms.piece(1, 2, 1, 9), unit(1));
        Check.is("a gap before it: pack(3)", deep.pack(3), 5);
        Check.is("a gap before it: z", deep.at(2, 2), 0);
        LoadRoom wide = Rooms.box(3, 2, 1, Rooms.piece(2, 1, 1, 9), Rooms.piece(1, 2, 1, 9), unit(1));
        Check.is("a gap on its right: pack(3)", wide.pack(3), 5);
        Check.is("a gap on its right: x", wide.at(2, 0), 0);
    }

    private static void standsOnTheFloor() {
        LoadRoom room = Rooms.ofUnits(2, 2, 2, 4);
        Check.is("pack(4)", room.pack(4), 4);
        for (int piece = 0; piece < 4; piece++) {
            Check.is("y of " + piece, room.at(piece, 1), 0);
        }
    }

    private static void standsOnUpperFaces() {
        LoadRoom piers = Rooms.box(2, 3, 1, Rooms.piece(1, 2, 1, 9), Rooms.piece(1, 2, 1, 9), Rooms.piece(2, 1, 1, 1));
        Check.is("a plate on two of one height: pack(1000)", piers.pack(1000), 6);
        Check.is("a plate on two of one height: y", piers.at(2, 1), 2);
        LoadRoom uneven = Rooms.box(2, 3, 1, Rooms.piece(1, 2, 1, 1), unit(1), Rooms.piece(2, 1, 1, 1));
        uneven.limit(2, 0);
        Check.is("two of two heights bear no plate", uneven.pack(1000), 3);
        LoadRoom wide = Rooms.box(2, 2, 1, unit(1), Rooms.piece(2, 1, 1, 1));
        wide.limit(1, 0);
        Check.is("it hangs over on the right", wide.pack(1000), 2);
        LoadRoom deep = Rooms.box(1, 2, 2, unit(1), Rooms.piece(1, 1, 2, 1));
        deep.limit(1, 0);
        Check.is("it hangs over before the door", deep.pack(1000), 2);
        standsOnOneAsGreat();
        standsOnSeveral();
        gapsBearNothing();
        holesBearNothing();
    }

    private static void standsOnOneAsGreat() {
        LoadRoom wide = Rooms.box(3, 2, 1, Rooms.piece(3, 1, 1, 1), Rooms.piece(3, 1, 1, 1));
        Check.is("as wide as the lower one", wide.pack(2), 6);
        LoadRoom deep = Rooms.box(1, 2, 3, Rooms.piece(1, 1, 3, 1), Rooms.piece(1, 1, 3, 1));
        Check.is("as deep as the lower one", deep.pack(2), 6);
        LoadRoom beside = Rooms.box(2, 2, 3, Rooms.piece(1, 1, 3, 1), unit(1), Rooms.piece(1, 1, 3, 1));
        Check.is("beside a lower unit", beside.pack(3), 7);
        Check.is("beside a lower unit: y", beside.at(2, 1), 1);
    }

    /** The right one of three is as deep as the two others together. */
    private static void standsOnSeveral() {
        LoadRoom three = Rooms.box(3, 2, 2, Rooms.piece(2, 1, 1, 1), Rooms.piece(1, 1, 2, 1), Rooms.piece(2, 1, 1, 1),
                Rooms.piece(3, 1, 2, 1));
        Check.is("a plate on three: pack(4)", three.pack(4), 12);
        Check.is("a plate on three: y", three.at(3, 1), 1);
        LoadRoom four = Rooms.box(2, 2, 2, unit(1), unit(1), unit(1), unit(1), Rooms.piece(2, 1, 2, 1));
        Check.is("a plate on four: pack(5)", four.pack(5), 8);
        // The pile comes to its height behind the high one in the row, though it is farther in, or on the left.
        LoadRoom deep = Rooms.box(1, 3, 2, unit(1), Rooms.piece(1, 2, 1, 1), unit(1), Rooms.piece(1, 1, 2, 1));
        Check.is("a plate on a high one and on a pile behind it: pack(4)", deep.pack(4), 6);
        LoadRoom wide = Rooms.box(2, 3, 1, unit(1), Rooms.piece(1, 2, 1, 1), unit(1), Rooms.piece(2, 1, 1, 1));
        Check.is("a plate on a high one and on a pile on its left: pack(4)", wide.pack(4), 6);
    }

    /** The upper faces are as great together as the plate, but not where it is. */
    private static void gapsBearNothing() {
        LoadRoom wide = Rooms.box(3, 3, 1, Rooms.piece(1, 2, 1, 1), unit(1), Rooms.piece(1, 2, 1, 1),
                Rooms.piece(2, 1, 1, 1));
        Check.is("on two piers and on the right of one: pack(4)", wide.pack(4), 5);
        LoadRoom deep = Rooms.box(1, 3, 3, Rooms.piece(1, 2, 1, 1), unit(1), Rooms.piece(1, 2, 1, 1),
                Rooms.piece(1, 1, 2, 1));
        Check.is("on two piers and before one: pack(4)", deep.pack(4), 5);
        LoadRoom corner = Rooms.box(3, 2, 2, unit(1), unit(1), unit(1), unit(1), Rooms.piece(2, 1, 2, 1));
        Check.is("on four, none of them under one corner: pack(5)", corner.pack(5), 4);
    }

    /** Four pieces round a hole of 1 bear no plate; with a fifth one in it they do. */
    private static void holesBearNothing() {
        LoadRoom ring = Rooms.box(3, 2, 3, Rooms.piece(2, 1, 1, 1), Rooms.piece(1, 1, 2, 1), Rooms.piece(1, 1, 2, 1),
                Rooms.piece(2, 1, 1, 1), Rooms.piece(3, 1, 3, 1));
        ring.limit(4, 0);
        Check.is("round a hole: pack(4)", ring.pack(4), 8);
        Check.is("round a hole: the plate does not stand", ring.pack(1000), 9);
        Check.is("round a hole: it is on the floor", ring.at(4, 1), 0);
        LoadRoom full = Rooms.box(3, 2, 3, Rooms.piece(2, 1, 1, 1), Rooms.piece(1, 1, 2, 1), Rooms.piece(1, 1, 2, 1),
                unit(1), Rooms.piece(2, 1, 1, 1), Rooms.piece(3, 1, 3, 1));
        full.limit(5, 0);
        Check.is("without a hole: pack(6)", full.pack(6), 18);
        Check.is("without a hole: y of the plate", full.at(5, 1), 1);
    }

    private static void bearsItsLimitAtMost() {
        LoadRoom room = Rooms.box(1, 2, 1, unit(5), unit(6));
        room.limit(0, 6);
        room.limit(1, 4);
        Check.is("6 on 5 that bears 6: pack(1000)", room.pack(1000), 2);
        Check.is("6 on 5 that bears 6: who is below", room.at(0, 1), 0);
        Check.is("6 on 5 that bears 6: what it bears", room.at(0, 5), 6);
        room.limit(0, 5);
        Check.is("6 on 5 that bears 5", room.pack(1000), 1);
        room.limit(1, 5);
        Check.is("5 on 6 that bears 5: pack(1000)", room.pack(1000), 2);
        Check.is("5 on 6 that bears 5: who is below", room.at(1, 1), 0);
        room.limit(0, 0);
        room.limit(1, 0);
        Check.is("none bears anything", room.pack(1000), 1);
        LoadRoom heavy = Rooms.box(1, 2, 1, unit(10000), unit(10000));
        heavy.limit(0, 9999);
        heavy.limit(1, 9999);
        Check.is("the heaviest on one that bears 1 less", heavy.pack(1000), 1);
        heavy.limit(1, 10000);
        Check.is("the heaviest on one that bears as much", heavy.pack(1000), 2);
    }

    private static void bearsAllThatIsAbove() {
        LoadRoom room = Rooms.box(1, 3, 1, unit(2), unit(2), unit(2));
        room.limit(0, 3);
        room.limit(1, 3);
        room.limit(2, 3);
        Check.is("each bears one: pack(1000)", room.pack(1000), 2);
        room.limit(1, 4);
        Check.is("one bears two: pack(1000)", room.pack(1000), 3);
        Check.is("one bears two: it is the lowest", room.at(1, 1), 0);
        Check.is("one bears two: it bears both", room.at(1, 5), 4);
        Check.is("the one at its upper face bears one", room.at(0, 5), 2);
        Check.is("the highest one bears none", room.at(2, 5), 0);
        LoadRoom low = Rooms.box(2, 2, 1, Rooms.piece(1, 2, 1, 9), unit(1), unit(1));
        low.limit(0, 0);
        low.limit(2, 0);
        Check.is("a high one beside is not above: pack(1000)", low.pack(1000), 4);
        Check.is("a high one beside is not above: what bears the low one", low.at(1, 5), 1);
    }

    private static void bearsWhatIsOverItsPlan() {
        LoadRoom wide = Rooms.box(2, 2, 1, unit(1), unit(1), Rooms.piece(2, 1, 1, 10));
        LoadRoom deep = Rooms.box(1, 2, 2, unit(1), unit(1), Rooms.piece(1, 1, 2, 10));
        bearsThePlate("wide", wide);
        bearsThePlate("deep", deep);
        LoadRoom right = Rooms.ofUnits(2, 2, 1, 3);
        LoadRoom before = Rooms.ofUnits(1, 2, 2, 3);
        doesNotBearThePileBeside("right", right);
        doesNotBearThePileBeside("before", before);
        onlyOneOfThreeBears(0);
        onlyOneOfThreeBears(1);
        onlyOneOfThreeBears(2);
        bearsNotWhatIsOnAnotherPart(10, 110, 1);
        bearsNotWhatIsOnAnotherPart(110, 10, 0);
    }

    /** The plate is over both units, and each of them bears all of it. */
    private static void bearsThePlate(String name, LoadRoom room) {
        room.limit(0, 10);
        room.limit(1, 10);
        room.limit(2, 0);
        Check.is(name + ": each bears all of the plate: pack(1000)", room.pack(1000), 4);
        Check.is(name + ": at(0, 5)", room.at(0, 5), 10);
        Check.is(name + ": at(1, 5)", room.at(1, 5), 10);
        room.limit(1, 9);
        Check.is(name + ": one bears too little", room.pack(1000), 2);
    }

    private static void doesNotBearThePileBeside(String name, LoadRoom room) {
        room.limit(0, 0);
        room.limit(2, 0);
        Check.is(name + ": a pile beside it: pack(1000)", room.pack(1000), 3);
        Check.is(name + ": a pile beside it: what it bears", room.at(0, 5), 0);
        Check.is(name + ": a pile beside it: what the other one bears", room.at(1, 5), 1);
    }

    /** Three units in a row and a fourth on the only one that bears it, whether the others are near or farther off. */
    private static void onlyOneOfThreeBears(int bearer) {
        for (int axis = 0; axis < 3; axis += 2) {
            LoadRoom room = Rooms.ofUnits(axis == 0 ? 3 : 1, 2, axis == 2 ? 3 : 1, 4);
            for (int piece = 0; piece < 4; piece++) {
                room.limit(piece, piece == bearer ? 1 : 0);
            }
            String name = "axis " + axis + ", one of three in a row: ";
            Check.is(name + "pack(4)", room.pack(4), 4);
            Check.is(name + "place of the fourth", room.at(3, axis), bearer);
            for (int piece = 0; piece < 3; piece++) {
                Check.is(name + "at(" + piece + ", 5)", room.at(piece, 5), piece == bearer ? 1 : 0);
            }
        }
    }

    /** Two units under a plate, and a heavy one on that: over one of them alone, so that just this one bears it. */
    private static void bearsNotWhatIsOnAnotherPart(int first, int second, int x) {
        LoadRoom room = Rooms.box(2, 3, 1, unit(1), unit(1), Rooms.piece(2, 1, 1, 10), unit(100));
        room.limit(0, first);
        room.limit(1, second);
        room.limit(2, 100);
        room.limit(3, 0);
        Check.is("on another part of the plate: pack(1000)", room.pack(1000), 5);
        Check.is("on another part of the plate: the first bears", room.at(0, 5), first);
        Check.is("on another part of the plate: the second bears", room.at(1, 5), second);
        Check.is("on another part of the plate: x", room.at(3, 0), x);
    }

    private static void greaterStopsShutIn() {
        LoadRoom room = Rooms.ofUnits(1, 1, 2, 2);
        room.order(1, 1);
        Check.is("0 and 1: pack(1000)", room.pack(1000), 2);
        Check.is("0 and 1: z of 1", room.at(1, 2), 0);
        Check.is("0 and 1: steps()", room.steps(), 3);
        room.order(0, 1);
        room.pack(1000);
        Check.is("equal stops are free: z of the first", room.at(0, 2), 0);
        Check.is("equal stops are free: steps()", room.steps(), 4);
        room.order(0, 9);
        room.order(1, 8);
        room.pack(1000);
        Check.is("9 and 8: z of 8", room.at(1, 2), 1);
        Check.is("9 and 8: steps()", room.steps(), 3);
    }

    private static void nearerPiecesShutIn() {
        // The long one and the plate leave a gap of 1 before the unit, and the plate shuts it in all the same.
        LoadRoom gap = Rooms.box(2, 1, 3, unit(1), Rooms.piece(1, 1, 2, 1), Rooms.piece(2, 1, 1, 1));
        gap.order(0, 1);
        gap.order(1, 2);
        gap.order(2, 1);
        Check.is("behind a gap, leaving with the plate", gap.pack(1000), 5);
        gap.order(0, 0);
        Check.is("behind a gap, leaving before the plate", gap.pack(1000), 4);
        // A high piece behind two low ones, one on the other.
        LoadRoom high = Rooms.box(1, 2, 2, Rooms.piece(1, 2, 1, 1), unit(1), unit(1));
        Check.is("all of one stop", high.pack(1000), 4);
        high.order(0, 1);
        Check.is("the high one leaves later: pack(1000)", high.pack(1000), 4);
        Check.is("the high one leaves later: it is farther in", high.at(0, 2), 0);
        high.order(1, 2);
        Check.is("one leaves before it, one behind it", high.pack(1000), 3);
        high.order(2, 2);
        Check.is("the high one leaves first: pack(1000)", high.pack(1000), 4);
        Check.is("the high one leaves first: it is nearer to the door", high.at(0, 2), 1);
    }

    private static void piecesBeforeItShutIn() {
        // A unit before one half of a wide piece, or of a high one.
        LoadRoom wide = Rooms.box(2, 1, 2, Rooms.piece(2, 1, 1, 1), unit(1));
        wide.order(1, 1);
        wide.pack(1000);
        Check.is("before a part of its width: steps()", wide.steps(), 3);
        Check.is("before a part of its width: z", wide.at(1, 2), 0);
        LoadRoom high = Rooms.box(1, 2, 2, Rooms.piece(1, 2, 1, 1), unit(1));
        high.order(1, 1);
        high.pack(1000);
        Check.is("before a part of its height: steps()", high.steps(), 3);
        Check.is("before a part of its height: z", high.at(1, 2), 0);
        // Of the places round the first unit only the one before it is shut: nearer to the door but beside is free.
        LoadRoom beside = Rooms.ofUnits(2, 1, 2, 2);
        beside.order(1, 9);
        beside.pack(1000);
        Check.is("beside its face: steps()", beside.steps(), 2 + 2 + 3);
        isBeforeOneOfThree(0);
        isBeforeOneOfThree(1);
        isBeforeOneOfThree(2);
        higherOrLowerIsNotBefore();
        farHigherOrLowerIsNotBefore();
    }

    /** A fourth unit before the only one of three side by side that leaves as late as it. */
    private static void isBeforeOneOfThree(int late) {
        LoadRoom room = Rooms.ofUnits(3, 1, 2, 4);
        room.order(late, 9);
        room.order(3, 9);
        Check.is("before one of three: pack(4)", room.pack(4), 4);
        Check.is("before one of three: x", room.at(3, 0), late);
        Check.is("before one of three: z", room.at(3, 2), 1);
    }

    /** A pile of three and a single unit; the highest is 1 above the face of the single one. */
    private static void farHigherOrLowerIsNotBefore() {
        LoadRoom inner = Rooms.ofUnits(1, 3, 2, 4);
        inner.limit(1, 0);
        inner.order(0, 9);
        inner.order(1, 9);
        inner.order(2, 9);
        Check.is("far above the outer one's face, leaving first: pack(4)", inner.pack(4), 4);
        Check.is("far above the outer one's face, leaving first: y", inner.at(3, 1), 2);
        Check.is("far above the outer one's face, leaving first: z", inner.at(3, 2), 0);
        LoadRoom outer = Rooms.ofUnits(1, 3, 2, 4);
        outer.limit(0, 0);
        outer.order(3, 9);
        Check.is("far above the inner one's face, leaving last: pack(4)", outer.pack(4), 4);
        Check.is("far above the inner one's face, leaving last: y", outer.at(3, 1), 2);
        Check.is("far above the inner one's face, leaving last: z", outer.at(3, 2), 1);
    }

    /** Three units, two of them in a pile: the upper one is neither before nor behind the single one. */
    private static void higherOrLowerIsNotBefore() {
        LoadRoom room = Rooms.ofUnits(1, 2, 2, 3);
        room.order(0, 2);
        room.order(1, 2);
        Check.is("above the inner one, leaving first: pack(1000)", room.pack(1000), 3);
        Check.is("above the inner one, leaving first: z", room.at(2, 2), 0);
        Check.is("above the inner one, leaving first: y", room.at(2, 1), 1);
        room.order(0, 0);
        room.order(1, 0);
        room.order(2, 2);
        room.limit(0, 0);
        Check.is("above the outer one, leaving last: pack(1000)", room.pack(1000), 3);
        Check.is("above the outer one, leaving last: z", room.at(2, 2), 1);
        Check.is("above the outer one, leaving last: y", room.at(2, 1), 1);
    }
}
