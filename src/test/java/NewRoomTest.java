/** Promise 1: a new object. */
public final class NewRoomTest {

    public static void main(String[] args) {
        isEmpty(new LoadRoom(4, 5, 6));
        lengthsAreKept();
        smallLengthsCountAsOne();
        greatLengthsCountAsTwoHundred();
        Check.end();
    }

    private static void isEmpty(LoadRoom room) {
        Check.is("exact()", room.exact(), false);
        Check.is("steps()", room.steps(), LoadRoom.NONE);
        Check.is("bound()", room.bound(), 0);
        Check.is("moment()", room.moment(), 0);
        Check.refuses("fits(0)", IndexOutOfBoundsException.class, () -> room.fits(0));
        Check.refuses("at(0, 0)", IndexOutOfBoundsException.class, () -> room.at(0, 0));
        Check.refuses("load(0, 0)", ArithmeticException.class, () -> room.load(0, 0));
    }

    /** A piece fits if it is as great as the box, and does not if it is greater on one axis. */
    private static void lengthsAreKept() {
        LoadRoom room = new LoadRoom(4, 5, 6);
        room.piece(4, 5, 6, 1);
        room.piece(5, 5, 6, 1);
        room.piece(4, 6, 6, 1);
        room.piece(4, 5, 7, 1);
        Check.is("fits, as great as the box", room.fits(0), 1);
        Check.is("fits, too wide", room.fits(1), 0);
        Check.is("fits, too high", room.fits(2), 0);
        Check.is("fits, too deep", room.fits(3), 0);
        Check.is("bound()", room.bound(), 120);
    }

    private static void smallLengthsCountAsOne() {
        int[] small = {1, 0, -1, -200, Integer.MIN_VALUE};
        for (int length : small) {
            LoadRoom room = new LoadRoom(length, length, length);
            room.piece(1, 1, 1, 1);
            room.piece(2, 1, 1, 1);
            room.piece(1, 2, 1, 1);
            room.piece(1, 1, 2, 1);
            Check.is("fits in a box of " + length, room.fits(0), 1);
            Check.is("fits, too wide for a box of " + length, room.fits(1), 0);
            Check.is("fits, too high for a box of " + length, room.fits(2), 0);
            Check.is("fits, too deep for a box of " + length, room.fits(3), 0);
        }
    }

    private static void greatLengthsCountAsTwoHundred() {
        int[] great = {200, 201, 1000, Integer.MAX_VALUE};
        for (int length : great) {
            LoadRoom room = new LoadRoom(length, length, length);
            room.piece(200, 200, 200, 1);
            room.piece(200, 200, 200, 1);
            Check.is("fits in a box of " + length, room.fits(0), 1);
            Check.is("bound() of a box of " + length, room.bound(), 8000000);
        }
        LoadRoom room = new LoadRoom(199, 199, 199);
        room.piece(200, 1, 1, 1);
        Check.is("fits in a box of 199", room.fits(0), 0);
    }
}
