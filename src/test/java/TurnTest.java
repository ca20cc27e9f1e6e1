/** Promise 3: turn. Which turns the marks allow is in TermsTurnsTest. */
public final class TurnTest {

    public static void main(String[] args) {
        Doc.open("Promise 3: turn");
        Doc.says("Its MARKS (0 .. 3)", TurnTest::takesTheLeastAndTheGreatest);
        Doc.says("what they were", TurnTest::answersWhatMarksWere);
        Doc.says("What was packed is gone.", TurnTest::forgetsWhatWasPacked);
        Doc.says("IndexOutOfBoundsException", TurnTest::refusesNoPieces);
        Doc.says("IllegalArgumentException", TurnTest::refusesOtherMarks);
        Doc.end();
    }

    private static void takesTheLeastAndTheGreatest() {
        LoadRoom room = Rooms.box(3, 3, 3, Rooms.piece(1, 2, 3, 1), Rooms.piece(1, 2, 3, 1));
        int[] turns = {1, 2, 5, 6};
        for (int marks = 3; marks >= 0; marks--) {
            room.turn(0, marks);
            Check.is("marks " + marks + ": fits(0)", room.fits(0), turns[marks]);
            Check.is("marks " + marks + ": fits(1), another one", room.fits(1), 1);
            room.pack(1000);
            room.turn(1, marks);
            Check.is("marks " + marks + ": fits(1)", room.fits(1), turns[marks]);
            room.turn(1, 0);
        }
    }

    private static void answersWhatMarksWere() {
        LoadRoom room = Rooms.box(4, 4, 4, Rooms.piece(1, 2, 3, 1), Rooms.piece(1, 2, 3, 1));
        Check.is("turn(0, 1)", room.turn(0, 1), 0);
        Check.is("turn(0, 2)", room.turn(0, 2), 1);
        Check.is("turn(0, 3)", room.turn(0, 3), 2);
        Check.is("turn(0, 3) again", room.turn(0, 3), 3);
        Check.is("turn(1, 0), another one", room.turn(1, 0), 0);
        Check.is("turn(0, 0)", room.turn(0, 0), 3);
        Check.is("turn(0, 0) again", room.turn(0, 0), 0);
    }

    private static void forgetsWhatWasPacked() {
        LoadRoom room = Packed.room();
        room.turn(0, 1);
        Packed.isGone(room, "other marks");
        LoadRoom last = Packed.room();
        last.turn(1, 3);
        Packed.isGone(last, "other marks of the last one");
        LoadRoom same = Packed.room();
        same.turn(0, 0);
        Packed.isGone(same, "the same marks");
    }

    private static void refusesNoPieces() {
        LoadRoom room = Packed.room();
        int[] noPieces = {-1, 2, 7, 8, Integer.MIN_VALUE, Integer.MAX_VALUE};
        for (int piece : noPieces) {
            Check.refuses("turn(" + piece + ", 0)", Check.INDEX, () -> room.turn(piece, 0));
            Check.refuses("turn(" + piece + ", 4)", Check.INDEX, () -> room.turn(piece, 4));
            Check.refuses("turn(" + piece + ", -1)", Check.INDEX, () -> room.turn(piece, -1));
        }
        Packed.isThere(room, "refused");
        LoadRoom full = Rooms.ofUnits(1, 1, 1, 8);
        Check.is("the eighth piece: turn(7, 3)", full.turn(7, 3), 0);
        Check.refuses("eight pieces: turn(8, 0)", Check.INDEX, () -> full.turn(8, 0));
    }

    private static void refusesOtherMarks() {
        LoadRoom room = Rooms.box(3, 3, 3, Rooms.piece(1, 2, 3, 1));
        room.turn(0, 1);
        room.pack(1000);
        int[] noMarks = {-1, 4, Integer.MIN_VALUE, Integer.MAX_VALUE};
        for (int marks : noMarks) {
            Check.refuses("turn(0, " + marks + ")", Check.ARGUMENT, () -> room.turn(0, marks));
            Check.is("refused: fits(0)", room.fits(0), 2);
            Check.is("refused: steps()", room.steps(), 2);
        }
        Check.is("what they were before the refusals", room.turn(0, 0), 1);
    }
}
