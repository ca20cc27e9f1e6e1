/** Promise 8: exact. */
public final class ExactTest {

    public static void main(String[] args) {
        LoadRoom room = new LoadRoom(1, 2, 1);
        Check.is("a new one", room.exact(), false);
        room.pack(1);
        Check.is("packed without pieces", room.exact(), true);
        room.piece(1, 1, 1, 1);
        Check.is("a piece came", room.exact(), false);
        room.pack(1);
        Check.is("steps just enough", room.exact(), true);
        room.piece(1, 1, 1, 1);
        room.pack(3);
        Check.is("one step too few", room.exact(), false);
        room.pack(4);
        Check.is("as many as there are", room.exact(), true);
        room.pack(3);
        Check.is("one too few again", room.exact(), false);
        Check.refuses("pack(0)", IllegalArgumentException.class, () -> room.pack(0));
        Check.is("refused: as before", room.exact(), false);
        room.pack(1000);
        Check.is("more than there are", room.exact(), true);
        room.turn(0, 3);
        Check.is("marks were changed", room.exact(), false);
        room.pack(1000);
        room.order(0, 1);
        Check.is("a stop was changed", room.exact(), false);
        room.pack(1000);
        room.limit(0, 1);
        Check.is("a limit was changed", room.exact(), false);
        room.pack(1000);
        room.axle(3);
        Check.is("an axle changes nothing", room.exact(), true);
        room.pack(1);
        room.piece(1, 1, 1, 1);
        room.pack(1000);
        Check.is("a spent search is forgotten", room.exact(), true);
        Check.end();
    }
}
