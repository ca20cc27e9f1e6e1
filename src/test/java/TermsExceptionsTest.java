import java.util.LinkedHashMap;
import java.util.Map;
import java.util.function.Consumer;
import java.util.function.Supplier;

/** Terms: the exceptions. */
public final class TermsExceptionsTest {

    private static final int[] EXTREMES = {Integer.MIN_VALUE, -1, Integer.MAX_VALUE};

    public static void main(String[] args) {
        Doc.open("Terms", "Exceptions");
        Doc.says("Exceptions, the one named first:", TermsExceptionsTest::theOneNamedFirstIsThrown);
        Doc.says("IndexOutOfBoundsException: there is no such piece,", TermsExceptionsTest::thereIsNoSuchPiece);
        Doc.says("axle.", TermsExceptionsTest::thereIsNoSuchAxle);
        Doc.says("ArithmeticException,", TermsExceptionsTest::thereIsNoAxle);
        Doc.says("IllegalArgumentException (a number is out of its bounds),",
                TermsExceptionsTest::numbersAreOutOfBounds);
        Doc.says("IllegalStateException: as told.", TermsExceptionsTest::thereIsNoRoomForMore);
        Doc.says("A call that throws changes nothing.", TermsExceptionsTest::callsThatThrowChangeNothing);
        Doc.end();
    }

    /** Eight pieces and six axles. */
    private static LoadRoom full() {
        LoadRoom room = new LoadRoom(3, 2, 3);
        for (int i = 0; i < 8; i++) {
            room.piece(1 + i % 3, 1, 1 + i % 2, i + 1);
        }
        room.turn(2, 3);
        room.order(1, 4);
        room.limit(0, 9);
        for (int i = 0; i < 6; i++) {
            room.axle(10 * i + 1);
        }
        return room;
    }

    private static LoadRoom fullAndPacked() {
        LoadRoom room = full();
        room.pack(300);
        return room;
    }

    /** Two pieces and one axle. */
    private static LoadRoom few() {
        LoadRoom room = Rooms.box(2, 3, 2, Rooms.piece(2, 1, 2, 3), Rooms.piece(2, 2, 2, 4));
        room.turn(0, 1);
        room.order(1, 2);
        room.limit(0, 8);
        room.axle(1);
        return room;
    }

    private static LoadRoom fewAndPacked() {
        LoadRoom room = few();
        room.pack(1000);
        return room;
    }

    private static void theOneNamedFirstIsThrown() {
        LoadRoom room = full();
        Check.refuses("piece: too narrow, and there are 8", Check.ARGUMENT, () -> room.piece(0, 1, 1, 1));
        Check.refuses("piece: too heavy, and there are 8", Check.ARGUMENT, () -> room.piece(1, 1, 1, 10001));
        Check.refuses("turn: no piece, no marks", Check.INDEX, () -> room.turn(8, 4));
        Check.refuses("order: no piece, no stop", Check.INDEX, () -> room.order(8, 10));
        Check.refuses("limit: no piece, no limit", Check.INDEX, () -> room.limit(8, 100001));
        Check.refuses("at: no piece, no number", Check.INDEX, () -> room.at(8, 6));
        Check.refuses("axle: not above the last, and there are 6", Check.ARGUMENT, () -> room.axle(51));
        Check.refuses("axle: too far, and there are 6", Check.ARGUMENT, () -> room.axle(1001));
        Check.refuses("load: no axle of that number, no part", Check.INDEX, () -> room.load(6, 2));
        LoadRoom bare = new LoadRoom(1, 1, 1);
        Check.refuses("load: no axle at all, no part", Check.ARITHMETIC, () -> bare.load(6, 2));
    }

    private static void thereIsNoSuchPiece() {
        for (int count = 0; count <= 8; count++) {
            LoadRoom room = Rooms.ofUnits(2, 2, 2, count);
            room.pack(9);
            hasNoPiece(room, count);
            for (int piece : EXTREMES) {
                hasNoPiece(room, piece);
            }
        }
    }

    private static void hasNoPiece(LoadRoom room, int piece) {
        Check.refuses("turn(" + piece + ", 0)", Check.INDEX, () -> room.turn(piece, 0));
        Check.refuses("order(" + piece + ", 0)", Check.INDEX, () -> room.order(piece, 0));
        Check.refuses("limit(" + piece + ", 0)", Check.INDEX, () -> room.limit(piece, 0));
        Check.refuses("fits(" + piece + ")", Check.INDEX, () -> room.fits(piece));
        Check.refuses("at(" + piece + ", 0)", Check.INDEX, () -> room.at(piece, 0));
        Check.refuses("touch(" + piece + ", 0)", Check.INDEX, () -> room.touch(piece, 0));
        Check.refuses("touch(0, " + piece + ")", Check.INDEX, () -> room.touch(0, piece));
    }

    private static void thereIsNoSuchAxle() {
        LoadRoom room = new LoadRoom(1, 1, 1);
        for (int count = 1; count <= 6; count++) {
            room.axle(count);
            int next = count;
            Check.refuses("load(" + next + ", 0)", Check.INDEX, () -> room.load(next, 0));
            for (int axle : EXTREMES) {
                Check.refuses("load(" + axle + ", 0)", Check.INDEX, () -> room.load(axle, 0));
            }
            Check.is("the last one is there", room.load(count - 1, 1), 1);
        }
    }

    private static void thereIsNoAxle() {
        LoadRoom room = Rooms.ofUnits(1, 1, 1, 1);
        Check.refuses("nothing was packed", Check.ARITHMETIC, () -> room.load(0, 0));
        room.pack(1);
        Check.refuses("packed", Check.ARITHMETIC, () -> room.load(0, 0));
        room.axle(0);
        Check.is("an axle", room.load(0, 0), 1);
    }

    private static void numbersAreOutOfBounds() {
        LoadRoom room = few();
        for (int number : EXTREMES) {
            Check.refuses("piece, width " + number, Check.ARGUMENT, () -> room.piece(number, 1, 1, 1));
            Check.refuses("piece, height " + number, Check.ARGUMENT, () -> room.piece(1, number, 1, 1));
            Check.refuses("piece, depth " + number, Check.ARGUMENT, () -> room.piece(1, 1, number, 1));
            Check.refuses("piece, weight " + number, Check.ARGUMENT, () -> room.piece(1, 1, 1, number));
            Check.refuses("turn(0, " + number + ")", Check.ARGUMENT, () -> room.turn(0, number));
            Check.refuses("order(0, " + number + ")", Check.ARGUMENT, () -> room.order(0, number));
            Check.refuses("limit(0, " + number + ")", Check.ARGUMENT, () -> room.limit(0, number));
            Check.refuses("pack(" + number + ")", Check.ARGUMENT, () -> room.pack(number));
            Check.refuses("at(0, " + number + ")", Check.ARGUMENT, () -> room.at(0, number));
            Check.refuses("axle(" + number + ")", Check.ARGUMENT, () -> room.axle(number));
            Check.refuses("load(0, " + number + ")", Check.ARGUMENT, () -> room.load(0, number));
        }
    }

    private static void thereIsNoRoomForMore() {
        LoadRoom room = full();
        Check.refuses("a ninth piece", Check.STATE, () -> room.piece(1, 1, 1, 1));
        Check.refuses("a seventh axle", Check.STATE, () -> room.axle(52));
        LoadRoom one = Rooms.ofUnits(1, 1, 1, 7);
        Check.is("an eighth piece", one.piece(1, 1, 1, 1), 7);
        Check.is("an axle", one.axle(0), 0);
    }

    private static void callsThatThrowChangeNothing() {
        changeNothing("full", TermsExceptionsTest::full, 8, 6);
        changeNothing("full and packed", TermsExceptionsTest::fullAndPacked, 8, 6);
        changeNothing("few", TermsExceptionsTest::few, 2, 1);
        changeNothing("few and packed", TermsExceptionsTest::fewAndPacked, 2, 1);
        LoadRoom few = few();
        Check.refuses("a piece that is too high", Check.ARGUMENT, () -> few.piece(1, 201, 1, 1));
        Check.refuses("an axle that is too far", Check.ARGUMENT, () -> few.axle(1001));
        Check.refuses("an axle at the last place", Check.ARGUMENT, () -> few.axle(1));
        Check.is("the next piece's number", few.piece(1, 1, 1, 1), 2);
        Check.is("the next axle's number", few.axle(2), 1);
    }

    /** Each call is refused by a room of its own, so that what it changes can't be hidden by the next one. */
    private static void changeNothing(String name, Supplier<LoadRoom> rooms, int pieces, int axles) {
        String due = Look.at(rooms.get(), pieces, axles);
        String dueTold = Look.told(rooms.get(), pieces);
        refused(pieces, axles).forEach((call, it) -> {
            LoadRoom room = rooms.get();
            refuse(name + ", " + call, room, it);
            same(name + ", " + call, Look.at(room, pieces, axles), due);
            same(name + ", " + call, Look.told(room, pieces), dueTold);
        });
    }

    private static Map<String, Consumer<LoadRoom>> refused(int pieces, int axles) {
        Map<String, Consumer<LoadRoom>> calls = new LinkedHashMap<>();
        calls.put("a piece of width 0", room -> room.piece(0, 1, 1, 1));
        calls.put("a piece of height 201", room -> room.piece(1, 201, 1, 1));
        calls.put("a piece of depth 0", room -> room.piece(1, 1, 0, 1));
        calls.put("a piece of weight 0", room -> room.piece(1, 1, 1, 0));
        calls.put("turn of no piece", room -> room.turn(pieces, 1));
        calls.put("turn(0, 4)", room -> room.turn(0, 4));
        calls.put("turn(0, -1)", room -> room.turn(0, -1));
        calls.put("order of no piece", room -> room.order(pieces, 1));
        calls.put("order(0, 10)", room -> room.order(0, 10));
        calls.put("order(0, -1)", room -> room.order(0, -1));
        calls.put("limit of no piece", room -> room.limit(pieces, 1));
        calls.put("limit(0, 100001)", room -> room.limit(0, 100001));
        calls.put("limit(0, -1)", room -> room.limit(0, -1));
        calls.put("fits of no piece", room -> room.fits(pieces));
        calls.put("pack(0)", room -> room.pack(0));
        calls.put("pack(1001)", room -> room.pack(1001));
        calls.put("at of no piece", room -> room.at(pieces, 0));
        calls.put("at(0, 6)", room -> room.at(0, 6));
        calls.put("touch of no lower one", room -> room.touch(pieces, 0));
        calls.put("touch of no upper one", room -> room.touch(0, pieces));
        calls.put("axle(-1)", room -> room.axle(-1));
        calls.put("axle(0), which is not above", room -> room.axle(0));
        calls.put("axle(1001)", room -> room.axle(1001));
        calls.put("load of no axle", room -> room.load(axles, 0));
        calls.put("load(0, 2)", room -> room.load(0, 2));
        calls.put("load(0, -1)", room -> room.load(0, -1));
        if (pieces == 8) {
            calls.put("a ninth piece", room -> room.piece(1, 1, 1, 1));
        }
        if (axles == 6) {
            calls.put("a seventh axle", room -> room.axle(999));
        }
        return calls;
    }

    private static void refuse(String name, LoadRoom room, Consumer<LoadRoom> call) {
        try {
            call.accept(room);
            Check.tell(name + " threw nothing");
        } catch (RuntimeException due) {
            return;
        }
    }

    private static void same(String name, String seen, String due) {
        if (!seen.equals(due)) {
            Check.tell(name + ": " + seen + "; due is " + due);
        }
    }
}
