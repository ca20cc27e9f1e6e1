/** Promise 2: piece. */
public final class PieceTest {

    public static void main(String[] args) {
        Doc.open("Promise 2: piece");
        Doc.says("A piece (numbers 1 .. 200, weight 1 .. 10000)", PieceTest::takesTheLeastAndTheGreatest);
        Doc.says("its number", PieceTest::numbersCountUp);
        Doc.says("MARKS and STOP 0", PieceTest::marksAndStopAreNoughtAtFirst);
        Doc.says("LIMIT 100000", PieceTest::limitIsTheGreatestAtFirst);
        Doc.says("What was packed is gone.", PieceTest::forgetsWhatWasPacked);
        Doc.says("IllegalArgumentException", PieceTest::refusesNumbersOutOfBounds);
        Doc.says("IllegalStateException: there are 8.", PieceTest::refusesANinth);
        Doc.end();
    }

    private static void takesTheLeastAndTheGreatest() {
        LoadRoom room = new LoadRoom(200, 200, 200);
        Check.is("the least piece", room.piece(1, 1, 1, 1), 0);
        Check.is("the widest", room.piece(200, 1, 1, 1), 1);
        Check.is("the highest", room.piece(1, 200, 1, 1), 2);
        Check.is("the deepest", room.piece(1, 1, 200, 1), 3);
        Check.is("the heaviest", room.piece(1, 1, 1, 10000), 4);
        Check.is("the greatest", room.piece(200, 200, 200, 10000), 5);
        Check.is("bound() of all but the greatest", Rooms.box(200, 200, 200, Rooms.piece(200, 1, 1, 1),
                Rooms.piece(1, 200, 1, 1), Rooms.piece(1, 1, 200, 1), Rooms.piece(1, 1, 1, 10000)).bound(), 601);
        LoadRoom heavy = Rooms.box(1, 200, 1, Rooms.piece(1, 200, 1, 10000));
        heavy.pack(1);
        Check.is("moment() of a high and heavy one", heavy.moment(), 2000000);
        LoadRoom light = Rooms.box(1, 200, 1, Rooms.piece(1, 1, 1, 1));
        light.pack(1);
        Check.is("moment() of a low and light one", light.moment(), 1);
    }

    private static void numbersCountUp() {
        LoadRoom room = new LoadRoom(1, 1, 1);
        for (int i = 0; i < 8; i++) {
            Check.is("piece " + i, room.piece(i + 1, 1, 1, 1), i);
        }
    }

    private static void marksAndStopAreNoughtAtFirst() {
        LoadRoom room = Rooms.box(9, 9, 9, Rooms.piece(1, 2, 3, 4));
        Check.is("turns that fit", room.fits(0), 1);
        Check.is("marks", room.turn(0, 3), 0);
        Check.is("stop", room.order(0, 9), 0);
        room.piece(3, 2, 1, 4);
        Check.is("marks of the next one", room.turn(1, 3), 0);
        Check.is("stop of the next one", room.order(1, 9), 0);
    }

    private static void limitIsTheGreatestAtFirst() {
        LoadRoom room = Rooms.box(1, 8, 1, Rooms.piece(1, 1, 1, 10000));
        Check.is("limit", room.limit(0, 0), 100000);
        room.piece(1, 1, 1, 1);
        Check.is("limit of the next one", room.limit(1, 0), 100000);
        LoadRoom pile = new LoadRoom(1, 8, 1);
        for (int i = 0; i < 8; i++) {
            pile.piece(1, 1, 1, 10000);
        }
        Check.is("eight of the heaviest in a pile", pile.pack(8), 8);
        Check.is("what the lowest bears", pile.at(0, 5), 70000);
    }

    private static void forgetsWhatWasPacked() {
        LoadRoom room = Packed.room();
        room.piece(1, 1, 1, 1);
        Packed.isGone(room, "a piece more");
        LoadRoom great = Packed.room();
        great.piece(200, 200, 200, 1);
        Packed.isGone(great, "a piece more that does not fit");
    }

    private static void refusesNumbersOutOfBounds() {
        LoadRoom room = Packed.room();
        int[] lengths = {0, -1, 201, Integer.MIN_VALUE, Integer.MAX_VALUE};
        for (int length : lengths) {
            Check.refuses("width " + length, Check.ARGUMENT, () -> room.piece(length, 1, 1, 1));
            Check.refuses("height " + length, Check.ARGUMENT, () -> room.piece(1, length, 1, 1));
            Check.refuses("depth " + length, Check.ARGUMENT, () -> room.piece(1, 1, length, 1));
        }
        int[] weights = {0, -1, 10001, Integer.MIN_VALUE, Integer.MAX_VALUE};
        for (int weight : weights) {
            Check.refuses("weight " + weight, Check.ARGUMENT, () -> room.piece(1, 1, 1, weight));
        }
        Packed.isThere(room, "refused");
        Check.is("the number that is next", room.piece(1, 1, 1, 1), 2);
    }

    private static void refusesANinth() {
        LoadRoom room = Rooms.ofUnits(1, 1, 1, 7);
        Check.is("the eighth", room.piece(1, 1, 1, 1), 7);
        room.pack(1000);
        Check.refuses("a ninth", Check.STATE, () -> room.piece(1, 1, 1, 1));
        Check.refuses("a tenth, the greatest", Check.STATE, () -> room.piece(200, 200, 200, 10000));
        Check.refuses("a ninth, too narrow", Check.ARGUMENT, () -> room.piece(0, 1, 1, 1));
        Check.refuses("a ninth, too high", Check.ARGUMENT, () -> room.piece(1, 201, 1, 1));
        Check.refuses("a ninth, too deep", Check.ARGUMENT, () -> room.piece(1, 1, 201, 1));
        Check.refuses("a ninth, too light", Check.ARGUMENT, () -> room.piece(1, 1, 1, 0));
        Check.is("what was packed is there: steps()", room.steps(), 8);
        Check.is("what was packed is there: moment()", room.moment(), 1);
        Check.is("the eighth is there", room.fits(7), 1);
        Check.refuses("there is no ninth", Check.INDEX, () -> room.fits(8));
        Check.is("bound()", room.bound(), 1);
    }
}
