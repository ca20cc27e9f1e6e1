/** What it is: an object stands 512 calls. */
public final class CallsTest {

    private static final int MOST_CALLS = 512;

    public static void main(String[] args) {
        Doc.open("What it is", "An object is used");
        Doc.says("An object is used for at most 512 calls after it has been made; what later calls answer is free.",
                CallsTest::answersToTheLast);
        Doc.end();
    }

    /** Full of pieces and axles, packed again and again, and refusing: at the end all is as at the beginning. */
    private static void answersToTheLast() {
        LoadRoom room = Rooms.ofUnits(2, 2, 2, 8);
        int calls = 8;
        for (int i = 0; i < 6; i++) {
            room.axle(i);
            calls++;
        }
        while (calls + 12 <= MOST_CALLS) {
            int piece = calls % 8;
            Check.is("call " + calls + ": pack(8)", room.pack(8), 8);
            Check.is("call " + calls + ": steps()", room.steps(), 8);
            Check.is("call " + calls + ": at(" + piece + ", 4)", room.at(piece, 4), piece);
            Check.is("call " + calls + ": moment()", room.moment(), 4 + 4 * 3);
            Check.is("call " + calls + ": touch(0, 4)", room.touch(0, 4), 1);
            Check.is("call " + calls + ": load(1, 0)", room.load(1, 0), 4);
            Check.refuses("call " + calls + ": a ninth piece", Check.STATE, () -> room.piece(1, 1, 1, 1));
            Check.refuses("call " + calls + ": a seventh axle", Check.STATE, () -> room.axle(9));
            Check.is("call " + calls + ": limit(" + piece + ", 100000)", room.limit(piece, 100000), 100000);
            Check.is("call " + calls + ": steps(), forgotten", room.steps(), LoadRoom.NONE);
            Check.is("call " + calls + ": pack(1000)", room.pack(1000), 8);
            Check.is("call " + calls + ": exact()", room.exact(), false);
            calls += 12;
        }
        while (calls < MOST_CALLS) {
            calls++;
            Check.is("call " + calls + ": bound()", room.bound(), 8);
        }
    }
}
