/** Terms: the search. Which packings were met, and when, is seen from the best one of so many steps. */
public final class TermsSearchTest {

    private static final int NONE = LoadRoom.NONE;

    public static void main(String[] args) {
        Doc.open("Terms", "THE SEARCH");
        Doc.says("THE SEARCH meets packings so, from that without pieces on:", TermsSearchTest::beginsWithoutPieces);
        Doc.says("behind a packing, of pieces that are not in it by their numbers,", TermsSearchTest::goesByNumbers);
        Doc.says("of one piece turn by turn,", TermsSearchTest::goesTurnByTurn);
        Doc.says("of one turn place by place (by y, then z, then x),", TermsSearchTest::goesPlaceByPlace);
        Doc.says("each packing that has that piece more is met, and what comes behind it is searched, before the next "
                + "one.", TermsSearchTest::goesBehindFirst);
        Doc.says("Each packing that is met is a STEP", TermsSearchTest::countsEachPacking);
        Doc.says("(that without pieces is none).", TermsSearchTest::doesNotCountThatWithoutPieces);
        Doc.says("When as many steps as told were made, and there is a further packing to be met, the search is SPENT,",
                TermsSearchTest::isSpentIfThereIsMore);
        Doc.says("and ends.", TermsSearchTest::endsWhenSpent);
        Doc.end();
    }

    private static void beginsWithoutPieces() {
        LoadRoom room = Rooms.box(1, 1, 1, Rooms.piece(2, 1, 1, 1), Rooms.piece(1, 1, 2, 1));
        Check.is("none goes in: pack(1)", room.pack(1), 0);
        Check.is("none goes in: exact()", room.exact(), true);
        Check.is("none goes in: moment()", room.moment(), 0);
        Check.is("none goes in: at(0, 4)", room.at(0, 4), NONE);
    }

    private static void goesByNumbers() {
        LoadRoom one = Rooms.box(1, 1, 1, Rooms.piece(1, 1, 1, 3), Rooms.piece(1, 1, 1, 2), Rooms.piece(1, 1, 1, 1));
        for (int steps = 1; steps <= 3; steps++) {
            one.pack(steps);
            Check.is("the newest is the lightest: " + steps, one.at(steps - 1, 0), 0);
        }
        // 0; 0 and 1; 0 and 2; 1; 1 and 0; 1 and 2; 2; 2 and 0; 2 and 1.
        LoadRoom two = Rooms.box(2, 1, 1, Rooms.piece(1, 1, 1, 5), Rooms.piece(1, 1, 1, 3), Rooms.piece(1, 1, 1, 1));
        int[] due = {5, 8, 6, 6, 6, 4, 4, 4, 4};
        for (int steps = 1; steps <= 9; steps++) {
            two.pack(steps);
            Check.is("moment() of " + steps, two.moment(), due[steps - 1]);
        }
    }

    /** The heights by turns are 3, 3, 2, 2, 1, 1: each second turn is as good as the one before it. */
    private static void goesTurnByTurn() {
        LoadRoom room = Rooms.box(3, 3, 3, Rooms.piece(2, 3, 1, 1));
        room.turn(0, 3);
        int[] due = {0, 0, 2, 2, 4, 4};
        for (int steps = 1; steps <= 6; steps++) {
            room.pack(steps);
            Check.is("turn of " + steps, room.at(0, 3), due[steps - 1]);
        }
        Check.is("there are no more", room.exact(), true);
    }

    /** The long piece goes in behind two units only if these are at the first two places. */
    private static void goesPlaceByPlace() {
        LoadRoom floor = Rooms.box(2, 1, 2, Rooms.piece(1, 1, 1, 1), Rooms.piece(1, 1, 1, 1), Rooms.piece(2, 1, 1, 1));
        Check.is("x before z", floor.pack(3), 4);
        LoadRoom side = Rooms.box(1, 2, 2, Rooms.piece(1, 1, 1, 1), Rooms.piece(1, 1, 1, 1), Rooms.piece(1, 1, 2, 1));
        Check.is("z before y", side.pack(3), 4);
        LoadRoom front = Rooms.box(2, 2, 1, Rooms.piece(1, 1, 1, 1), Rooms.piece(1, 1, 1, 1), Rooms.piece(2, 1, 1, 1));
        Check.is("x before y", front.pack(3), 4);
        LoadRoom all = Rooms.ofUnits(2, 2, 2, 8);
        all.pack(8);
        for (int i = 0; i < 8; i++) {
            Check.is("x of " + i, all.at(i, 0), i % 2);
            Check.is("z of " + i, all.at(i, 2), i / 2 % 2);
            Check.is("y of " + i, all.at(i, 1), i / 4);
        }
        lesserEndsComeFirst();
        turnsComeBeforePlaces();
    }

    /** The second piece ends before the first one, and the third goes to that end though it is the newer one. */
    private static void lesserEndsComeFirst() {
        LoadRoom x = Rooms.box(4, 1, 2, Rooms.piece(3, 1, 1, 1), Rooms.piece(2, 1, 1, 1), Rooms.piece(1, 1, 1, 1));
        Check.is("ends on axis 0: pack(3)", x.pack(3), 6);
        Check.is("ends on axis 0: x", x.at(2, 0), 2);
        LoadRoom y = Rooms.box(2, 4, 1, Rooms.piece(1, 3, 1, 1), Rooms.piece(1, 2, 1, 1), Rooms.piece(1, 1, 1, 1));
        Check.is("ends on axis 1: pack(3)", y.pack(3), 6);
        Check.is("ends on axis 1: y", y.at(2, 1), 2);
        LoadRoom z = Rooms.box(2, 1, 4, Rooms.piece(1, 1, 3, 1), Rooms.piece(1, 1, 2, 1), Rooms.piece(1, 1, 1, 1));
        Check.is("ends on axis 2: pack(3)", z.pack(3), 6);
        Check.is("ends on axis 2: z", z.at(2, 2), 2);
    }

    /**
     * Behind the unit the high piece is put beside it, before it, before beside it and on it, and then it is turned:
     * so the sixth packing is the first one in which it is low.
     */
    private static void turnsComeBeforePlaces() {
        LoadRoom room = Rooms.box(3, 3, 3, Rooms.piece(1, 1, 1, 1), Rooms.piece(1, 2, 1, 1));
        room.turn(1, 3);
        int[] due = {1, 3, 3, 3, 3, 2};
        for (int steps = 1; steps <= 6; steps++) {
            room.pack(steps);
            Check.is("moment() of " + steps, room.moment(), due[steps - 1]);
        }
        Check.is("turned and beside it: turn", room.at(1, 3), 2);
        Check.is("turned and beside it: x", room.at(1, 0), 1);
        Check.is("turned and beside it: z", room.at(1, 2), 0);
    }

    private static void goesBehindFirst() {
        LoadRoom room = Rooms.ofUnits(3, 1, 1, 3);
        int[] due = {1, 2, 3, 3, 3};
        for (int steps = 1; steps <= 5; steps++) {
            Check.is("pack(" + steps + ")", room.pack(steps), due[steps - 1]);
        }
        // 0; 0 and 1; 1; 1 and 0; 2, which is greater than both and leaves no room.
        LoadRoom great = Rooms.box(3, 1, 1, Rooms.piece(1, 1, 1, 1), Rooms.piece(1, 1, 1, 1), Rooms.piece(3, 1, 1, 1));
        Check.is("pack(4)", great.pack(4), 2);
        Check.is("pack(5)", great.pack(5), 3);
        Check.is("exact()", great.exact(), true);
    }

    /** Of four units on a floor of two by two the first is at the origin, the others at rising places. */
    private static void countsEachPacking() {
        LoadRoom room = Rooms.ofUnits(2, 1, 2, 4);
        room.pack(1000);
        Check.is("four on two by two", room.steps(), 4 + 12 * 3 + 24 * 3 + 24);
        LoadRoom row = Rooms.ofUnits(3, 1, 1, 3);
        row.pack(1000);
        Check.is("three in a row", row.steps(), 3 + 6 + 6);
        LoadRoom alone = Rooms.ofUnits(1, 1, 1, 8);
        alone.pack(1000);
        Check.is("eight, each alone", alone.steps(), 8);
        LoadRoom turned = Rooms.box(3, 3, 3, Rooms.piece(1, 2, 3, 1));
        turned.turn(0, 3);
        turned.pack(1000);
        Check.is("six turns", turned.steps(), 6);
    }

    private static void doesNotCountThatWithoutPieces() {
        LoadRoom room = new LoadRoom(1, 1, 1);
        room.pack(1);
        Check.is("no pieces: steps()", room.steps(), 0);
        room.piece(1, 1, 1, 1);
        Check.is("one piece: pack(1)", room.pack(1), 1);
        Check.is("one piece: steps()", room.steps(), 1);
        Check.is("one piece: exact()", room.exact(), true);
    }

    private static void isSpentIfThereIsMore() {
        // Three in a row: the last packing is the longest one of the last piece.
        isExactFrom(15, Rooms.ofUnits(3, 1, 1, 3));
        // Two that do not go in behind the first: there is nothing to be met of them.
        isExactFrom(1, Rooms.box(1, 1, 1, Rooms.piece(1, 1, 1, 1), Rooms.piece(2, 1, 1, 1), Rooms.piece(1, 2, 1, 1)));
        // The last packing is another turn of the only piece.
        LoadRoom turned = Rooms.box(2, 1, 2, Rooms.piece(2, 1, 1, 1));
        turned.turn(0, 1);
        isExactFrom(2, turned);
        // The last packing is another place of the last piece: on the other one.
        isExactFrom(6, Rooms.ofUnits(2, 2, 1, 2));
        // The eighth piece of a full row, and then each piece alone.
        LoadRoom pile = Rooms.ofUnits(1, 8, 1, 8);
        pile.pack(8);
        Check.is("a full row is not all: exact()", pile.exact(), false);
        isExactFrom(0, new LoadRoom(1, 1, 1));
    }

    private static void isExactFrom(int all, LoadRoom room) {
        for (int steps = 1; steps <= all + 2; steps++) {
            room.pack(steps);
            Check.is("of " + all + ": exact() of " + steps, room.exact(), steps >= all);
            Check.is("of " + all + ": steps() of " + steps, room.steps(), Math.min(steps, all));
        }
    }

    private static void endsWhenSpent() {
        LoadRoom room = Rooms.box(3, 1, 1, Rooms.piece(1, 1, 1, 1), Rooms.piece(3, 1, 1, 1));
        Check.is("the great one is not met any more", room.pack(1), 1);
        Check.is("it is left out", room.at(1, 0), NONE);
        Check.is("steps()", room.steps(), 1);
        Check.is("it is met by the second step", room.pack(2), 3);
        LoadRoom many = Rooms.ofUnits(8, 8, 8, 8);
        Check.is("the most steps", many.pack(1000), 8);
        Check.is("the most steps: steps()", many.steps(), 1000);
        Check.is("the most steps: exact()", many.exact(), false);
    }
}
