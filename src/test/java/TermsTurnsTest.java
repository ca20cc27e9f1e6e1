/** Terms: the turns of a piece. */
public final class TermsTurnsTest {

    /** A piece of width 1, height 2, depth 3 in each turn: width, height, depth. */
    private static final int[][] TURNED = {{1, 2, 3}, {3, 2, 1}, {2, 1, 3}, {3, 1, 2}, {1, 3, 2}, {2, 3, 1}};

    public static void main(String[] args) {
        Doc.open("Terms", "TURNS");
        Doc.says("TURNS of a piece of width w, height h, depth d: 0 (w, h, d), 1 (d, h, w), 2 (h, w, d), 3 (d, w, h), "
                + "4 (w, d, h), 5 (h, d, w).", TermsTurnsTest::eachTurnHasItsNumbers);
        Doc.says("Turn 0 is allowed;", () -> isAllowed(0, true, true, true, true));
        Doc.says("1 if MARKS are odd;", () -> isAllowed(1, false, true, false, true));
        Doc.says("2 to 5 if MARKS are 2 or 3.", TermsTurnsTest::theOthersAreAllowedByGreatMarks);
        Doc.says("An allowed turn with the same three numbers as an allowed one before it counts for nothing.",
                TermsTurnsTest::alikeTurnsCountOnce);
        Doc.end();
    }

    /** In a box that is as great as the piece in one turn, just that turn is left. */
    private static LoadRoom roomFor(int turn, int marks) {
        LoadRoom room = Rooms.box(TURNED[turn][0], TURNED[turn][1], TURNED[turn][2], Rooms.piece(1, 2, 3, 1));
        room.turn(0, marks);
        return room;
    }

    private static void eachTurnHasItsNumbers() {
        for (int turn = 0; turn < 6; turn++) {
            LoadRoom room = roomFor(turn, 3);
            Check.is("box of turn " + turn + ": pack(9)", room.pack(9), 6);
            Check.is("box of turn " + turn + ": at(0, 3)", room.at(0, 3), turn);
            Check.is("box of turn " + turn + ": moment()", room.moment(), TURNED[turn][1]);
        }
    }

    private static void isAllowed(int turn, boolean... byMarks) {
        for (int marks = 0; marks < 4; marks++) {
            LoadRoom room = roomFor(turn, marks);
            String when = "turn " + turn + ", marks " + marks;
            Check.is(when + ": fits(0)", room.fits(0), byMarks[marks] ? 1 : 0);
            Check.is(when + ": pack(9)", room.pack(9), byMarks[marks] ? 6 : 0);
            Check.is(when + ": steps()", room.steps(), byMarks[marks] ? 1 : 0);
            Check.is(when + ": at(0, 3)", room.at(0, 3), byMarks[marks] ? turn : LoadRoom.NONE);
        }
    }

    private static void theOthersAreAllowedByGreatMarks() {
        for (int turn = 2; turn < 6; turn++) {
            isAllowed(turn, false, false, true, true);
        }
    }

    /**
     * How many turns count by marks 0 .. 3. With marks 2 turn 1 is not allowed, so that a later one with its numbers
     * counts: of (2, 1, 1) that is turn 5, of (1, 1, 2) turn 3.
     */
    private static void alikeTurnsCountOnce() {
        int[][] pieces = {{2, 2, 2}, {1, 2, 1}, {2, 1, 1}, {1, 1, 2}, {1, 2, 3}};
        int[][] due = {{1, 1, 1, 1}, {1, 1, 3, 3}, {1, 2, 3, 3}, {1, 2, 3, 3}, {1, 2, 5, 6}};
        for (int i = 0; i < pieces.length; i++) {
            LoadRoom room = Rooms.box(3, 3, 3, Rooms.piece(pieces[i][0], pieces[i][1], pieces[i][2], 1));
            for (int marks = 0; marks < 4; marks++) {
                room.turn(0, marks);
                Check.is("piece " + i + ", marks " + marks + ": fits(0)", room.fits(0), due[i][marks]);
                room.pack(1000);
                Check.is("piece " + i + ", marks " + marks + ": steps()", room.steps(), due[i][marks]);
            }
        }
        theFirstOfAlikeTurnsIsTaken(1, 1);
        theFirstOfAlikeTurnsIsTaken(2, 5);
        theFirstOfAlikeTurnsIsTaken(3, 1);
    }

    /** The box is (1, 1, 2), and (2, 1, 1) goes in as turn 1 or as turn 5. */
    private static void theFirstOfAlikeTurnsIsTaken(int marks, int due) {
        LoadRoom room = Rooms.box(1, 1, 2, Rooms.piece(2, 1, 1, 1));
        room.turn(0, marks);
        room.pack(1000);
        Check.is("marks " + marks + ": at(0, 3)", room.at(0, 3), due);
        Check.is("marks " + marks + ": steps()", room.steps(), 1);
    }
}
