/** Promise 7: pack; and what a packing, the best one and the search are. */
public final class PackTest {

    private static final int NONE = LoadRoom.NONE;

    public static void main(String[] args) {
        packsWithoutPieces();
        leavesOutWhatDoesNotFit();
        takesTheGreatestVolume();
        takesTheLeastMomentThen();
        takesTheFirstMetThen();
        meetsTurnsAndPlacesInTheirOrder();
        standsOnSeveralPieces();
        doesNotHangOver();
        beginsAtCornersAlone();
        placesRise();
        stopsAtItsSteps();
        packsAnew();
        filledToTheLast();
        refusesWrongNumbers();
        Check.end();
    }

    private static void packsWithoutPieces() {
        LoadRoom room = new LoadRoom(3, 3, 3);
        Check.is("pack(1)", room.pack(1), 0);
        Check.is("exact()", room.exact(), true);
        Check.is("steps()", room.steps(), 0);
    }

    private static void leavesOutWhatDoesNotFit() {
        LoadRoom room = new LoadRoom(3, 3, 3);
        room.piece(4, 1, 1, 1);
        Check.is("pack(1)", room.pack(1), 0);
        Check.is("exact()", room.exact(), true);
        Check.is("steps()", room.steps(), 0);
        Check.is("at(0, 0)", room.at(0, 0), NONE);
        room.turn(0, 3);
        Check.is("no turn helps", room.pack(1), 0);
    }

    private static void takesTheGreatestVolume() {
        LoadRoom room = new LoadRoom(3, 1, 1);
        room.piece(1, 1, 1, 1);
        room.piece(3, 1, 1, 9);
        room.piece(1, 1, 1, 1);
        Check.is("pack(1000)", room.pack(1000), 3);
        Check.is("the long one", room.at(1, 0), 0);
        Check.is("not the first", room.at(0, 0), NONE);
        Check.is("not the last", room.at(2, 0), NONE);
    }

    private static void takesTheLeastMomentThen() {
        LoadRoom room = new LoadRoom(1, 2, 1);
        room.piece(1, 1, 1, 1);
        room.piece(1, 1, 1, 2);
        Check.is("pack(1000)", room.pack(1000), 2);
        Check.is("the heavy one is low", room.at(1, 1), 0);
        Check.is("the light one is high", room.at(0, 1), 1);
        Check.is("moment()", room.moment(), 2 * 1 + 1 * 3);
    }

    private static void takesTheFirstMetThen() {
        LoadRoom room = new LoadRoom(1, 2, 1);
        room.piece(1, 1, 1, 2);
        room.piece(1, 1, 1, 2);
        room.pack(1000);
        Check.is("the first is low", room.at(0, 1), 0);
        Check.is("the second is high", room.at(1, 1), 1);
    }

    /** With one step more each time, the newest packing that is met is the best one if its volume grew. */
    private static void meetsTurnsAndPlacesInTheirOrder() {
        LoadRoom room = new LoadRoom(3, 3, 3);
        room.piece(1, 1, 1, 1);
        room.piece(1, 2, 1, 1);
        room.turn(1, 3);
        Check.is("step 1: the first piece", room.pack(1), 1);
        Check.is("step 2: the second beside it", room.pack(2), 3);
        Check.is("its x", room.at(1, 0), 1);
        Check.is("its turn", room.at(1, 3), 0);
        room.pack(4);
        Check.is("steps 3 and 4: before it, and before beside it", room.at(1, 0), 1);
        Check.is("its moment is 2", room.moment(), 1 + 2);
        room.pack(6);
        Check.is("step 5: on it; step 6: turned, its moment is less", room.moment(), 1 + 1);
        Check.is("its turn then", room.at(1, 3), 2);
        Check.is("its x then", room.at(1, 0), 1);
        Check.is("its z then", room.at(1, 2), 0);
    }

    private static void standsOnSeveralPieces() {
        LoadRoom room = new LoadRoom(2, 3, 1);
        room.piece(1, 2, 1, 9);
        room.piece(1, 2, 1, 9);
        room.piece(2, 1, 1, 1);
        Check.is("pack(1000)", room.pack(1000), 6);
        Check.is("the long one is above", room.at(2, 1), 2);
        Check.is("it touches the first", room.touch(0, 2), 1);
        Check.is("it touches the second", room.touch(1, 2), 1);
    }

    private static void doesNotHangOver() {
        LoadRoom room = new LoadRoom(2, 2, 1);
        room.piece(1, 1, 1, 1);
        room.piece(2, 1, 1, 1);
        Check.is("pack(1000)", room.pack(1000), 3);
        Check.is("the long one is below", room.at(1, 1), 0);
        Check.is("steps: 0; 1, 1 and 0", room.steps(), 3);
        LoadRoom uneven = new LoadRoom(2, 3, 1);
        uneven.piece(1, 2, 1, 1);
        uneven.piece(1, 1, 1, 1);
        uneven.piece(2, 1, 1, 1);
        uneven.limit(2, 0);
        Check.is("piers of two heights", uneven.pack(1000), 3);
    }

    /** A box of 5: behind a piece of 2 the next one begins at 2, never at 3 or 4. */
    private static void beginsAtCornersAlone() {
        LoadRoom room = new LoadRoom(5, 1, 1);
        room.piece(2, 1, 1, 1);
        room.piece(1, 1, 1, 1);
        room.pack(1000);
        Check.is("steps: 0, 0 and 1; 1, 1 and 0", room.steps(), 4);
        Check.is("x", room.at(1, 0), 2);
    }

    /** Four pieces on a floor of two by two: places rise by z, then x, and one may leave a place free. */
    private static void placesRise() {
        LoadRoom room = new LoadRoom(2, 1, 2);
        for (int i = 0; i < 4; i++) {
            room.piece(1, 1, 1, 1);
        }
        Check.is("pack(1000)", room.pack(1000), 4);
        int[] x = {0, 1, 0, 1};
        int[] z = {0, 0, 1, 1};
        for (int i = 0; i < 4; i++) {
            Check.is("x of " + i, room.at(i, 0), x[i]);
            Check.is("y of " + i, room.at(i, 1), 0);
            Check.is("z of " + i, room.at(i, 2), z[i]);
            Check.is("number in the row of " + i, room.at(i, 4), i);
        }
        // Of the four places the first is always taken, and of the three others none, one, two or all.
        Check.is("steps()", room.steps(), 4 + 12 * 3 + 24 * 3 + 24);
    }

    private static void stopsAtItsSteps() {
        LoadRoom room = new LoadRoom(2, 1, 1);
        room.piece(1, 1, 1, 1);
        room.piece(1, 1, 1, 1);
        Check.is("pack(1)", room.pack(1), 1);
        Check.is("exact() of 1", room.exact(), false);
        Check.is("pack(2)", room.pack(2), 2);
        Check.is("exact() of 2", room.exact(), false);
        Check.is("pack(3)", room.pack(3), 2);
        Check.is("exact() of 3", room.exact(), false);
        Check.is("pack(4)", room.pack(4), 2);
        Check.is("exact() of 4", room.exact(), true);
        Check.is("pack(5)", room.pack(5), 2);
        Check.is("exact() of 5", room.exact(), true);
        Check.is("steps()", room.steps(), 4);
    }

    private static void packsAnew() {
        LoadRoom room = Packed.room();
        Check.is("pack(1)", room.pack(1), 4);
        Check.is("the other one is left out now", room.at(1, 1), NONE);
        Check.is("moment()", room.moment(), 3);
        Check.is("what it bears", room.at(0, 5), 0);
        Check.is("pack(1000)", room.pack(1000), 12);
        Packed.isThere(room, "packed again");
    }

    private static void filledToTheLast() {
        LoadRoom room = new LoadRoom(1, 8, 1);
        for (int i = 0; i < 8; i++) {
            room.piece(1, 1, 1, 1);
        }
        Check.is("eight in a pile", room.pack(8), 8);
        Check.is("exact()", room.exact(), false);
        for (int i = 0; i < 8; i++) {
            Check.is("y of " + i, room.at(i, 1), i);
            Check.is("what bears " + i, room.at(i, 5), 7 - i);
        }
        LoadRoom great = new LoadRoom(200, 200, 200);
        for (int i = 0; i < 8; i++) {
            great.piece(100, 100, 100, 10000);
        }
        Check.is("all of the greatest box", great.pack(8), 8000000);
        Check.is("its moment", great.moment(), 4L * 10000 * 100 + 4L * 10000 * 300);
    }

    private static void refusesWrongNumbers() {
        LoadRoom room = Packed.room();
        int[] noSteps = {0, -1, 1001, Integer.MIN_VALUE, Integer.MAX_VALUE};
        for (int steps : noSteps) {
            Check.refuses("pack(" + steps + ")", IllegalArgumentException.class, () -> room.pack(steps));
        }
        Packed.isThere(room, "refused");
        Check.is("pack(1)", room.pack(1), 4);
        Check.is("pack(1000)", room.pack(1000), 12);
        LoadRoom fresh = new LoadRoom(1, 1, 1);
        Check.refuses("pack(0)", IllegalArgumentException.class, () -> fresh.pack(0));
        Check.is("steps() when nothing was packed", fresh.steps(), NONE);
    }
}
