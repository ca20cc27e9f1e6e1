/** Promise 3: turn; and which turns the marks allow. */
public final class TurnTest {

    /** A piece of width 1, height 2, depth 3 in each turn: width, height, depth. */
    private static final int[][] TURNED = {{1, 2, 3}, {3, 2, 1}, {2, 1, 3}, {3, 1, 2}, {1, 3, 2}, {2, 3, 1}};

    public static void main(String[] args) {
        answersWhatMarksWere();
        eachTurnHasItsNumbers();
        alikeTurnsCountOnce();
        forgetsWhatWasPacked();
        refusesWrongNumbers();
        Check.end();
    }

    private static void answersWhatMarksWere() {
        LoadRoom room = new LoadRoom(4, 4, 4);
        room.piece(1, 2, 3, 1);
        room.piece(1, 2, 3, 1);
        Check.is("turn(0, 1)", room.turn(0, 1), 0);
        Check.is("turn(0, 2)", room.turn(0, 2), 1);
        Check.is("turn(0, 3)", room.turn(0, 3), 2);
        Check.is("turn(0, 0)", room.turn(0, 0), 3);
        Check.is("turn(1, 0)", room.turn(1, 0), 0);
    }

    /** In a box that is as great as the piece in one turn, just that turn is left, if it is allowed. */
    private static void eachTurnHasItsNumbers() {
        boolean[][] allowed = {
            {true, false, false, false, false, false},
            {true, true, false, false, false, false},
            {true, false, true, true, true, true},
            {true, true, true, true, true, true},
        };
        for (int marks = 0; marks < 4; marks++) {
            for (int turn = 0; turn < 6; turn++) {
                LoadRoom room = new LoadRoom(TURNED[turn][0], TURNED[turn][1], TURNED[turn][2]);
                room.piece(1, 2, 3, 1);
                room.turn(0, marks);
                String when = "marks " + marks + ", box of turn " + turn;
                Check.is(when + ": fits(0)", room.fits(0), allowed[marks][turn] ? 1 : 0);
                Check.is(when + ": pack(9)", room.pack(9), allowed[marks][turn] ? 6 : 0);
                Check.is(when + ": steps()", room.steps(), allowed[marks][turn] ? 1 : 0);
                Check.is(when + ": at(0, 3)", room.at(0, 3), allowed[marks][turn] ? turn : LoadRoom.NONE);
            }
        }
    }

    private static void alikeTurnsCountOnce() {
        int[][] pieces = {{2, 2, 2}, {1, 2, 1}, {2, 1, 1}, {1, 1, 2}, {1, 2, 3}};
        int[][] due = {{1, 1, 1, 1}, {1, 1, 3, 3}, {1, 2, 3, 3}, {1, 2, 3, 3}, {1, 2, 5, 6}};
        for (int i = 0; i < pieces.length; i++) {
            LoadRoom room = new LoadRoom(3, 3, 3);
            room.piece(pieces[i][0], pieces[i][1], pieces[i][2], 1);
            for (int marks = 0; marks < 4; marks++) {
                room.turn(0, marks);
                Check.is("piece " + i + ", marks " + marks + ": fits(0)", room.fits(0), due[i][marks]);
                room.pack(1000);
                Check.is("piece " + i + ", marks " + marks + ": steps()", room.steps(), due[i][marks]);
            }
        }
    }

    private static void forgetsWhatWasPacked() {
        LoadRoom room = Packed.room();
        room.turn(0, 1);
        Packed.isGone(room, "other marks");
        LoadRoom same = Packed.room();
        same.turn(0, 0);
        Packed.isGone(same, "the same marks");
    }

    private static void refusesWrongNumbers() {
        LoadRoom room = Packed.room();
        int[] noPieces = {-1, 2, 8, Integer.MIN_VALUE, Integer.MAX_VALUE};
        for (int piece : noPieces) {
            Check.refuses("turn(" + piece + ", 0)", IndexOutOfBoundsException.class, () -> room.turn(piece, 0));
            Check.refuses("turn(" + piece + ", 4)", IndexOutOfBoundsException.class, () -> room.turn(piece, 4));
        }
        int[] noMarks = {-1, 4, Integer.MIN_VALUE, Integer.MAX_VALUE};
        for (int marks : noMarks) {
            Check.refuses("turn(0, " + marks + ")", IllegalArgumentException.class, () -> room.turn(0, marks));
        }
        Packed.isThere(room, "refused");
        Check.is("marks after refusals", room.turn(0, 0), 0);
    }
}
