/** Promise 5: limit; and that no piece bears more than that. */
public final class LimitTest {

    public static void main(String[] args) {
        answersWhatLimitWas();
        bearsJustItsLimit();
        bearsWhatIsFartherAboveToo();
        bearsAllThatIsPartlyAbove();
        doesNotBearWhatIsBeside();
        forgetsWhatWasPacked();
        refusesWrongNumbers();
        Check.end();
    }

    private static void answersWhatLimitWas() {
        LoadRoom room = new LoadRoom(4, 4, 4);
        room.piece(1, 1, 1, 1);
        room.piece(1, 1, 1, 1);
        Check.is("limit(0, 0)", room.limit(0, 0), 100000);
        Check.is("limit(0, 100000)", room.limit(0, 100000), 0);
        Check.is("limit(1, 7)", room.limit(1, 7), 100000);
        Check.is("limit(1, 8)", room.limit(1, 8), 7);
    }

    private static void bearsJustItsLimit() {
        LoadRoom room = new LoadRoom(1, 2, 1);
        room.piece(1, 1, 1, 5);
        room.piece(1, 1, 1, 6);
        room.limit(0, 6);
        room.limit(1, 4);
        Check.is("6 on 5 that bears 6", room.pack(1000), 2);
        Check.is("who is below", room.at(0, 1), 0);
        Check.is("what it bears", room.at(0, 5), 6);
        room.limit(0, 5);
        Check.is("6 on 5 that bears 5", room.pack(1000), 1);
        room.limit(1, 5);
        Check.is("5 on 6 that bears 5", room.pack(1000), 2);
        Check.is("now the other one is below", room.at(1, 1), 0);
    }

    private static void bearsWhatIsFartherAboveToo() {
        LoadRoom room = new LoadRoom(1, 3, 1);
        room.piece(1, 1, 1, 2);
        room.piece(1, 1, 1, 2);
        room.piece(1, 1, 1, 2);
        room.limit(0, 3);
        room.limit(1, 3);
        room.limit(2, 3);
        Check.is("each bears one", room.pack(1000), 2);
        room.limit(1, 4);
        Check.is("one bears two", room.pack(1000), 3);
        Check.is("it is the lowest", room.at(1, 1), 0);
        Check.is("it bears both", room.at(1, 5), 4);
        Check.is("the middle one bears one", room.at(0, 5), 2);
        Check.is("the highest one bears none", room.at(2, 5), 0);
    }

    /** A long piece weighs wholly on each of the short ones under it, not by parts. */
    private static void bearsAllThatIsPartlyAbove() {
        LoadRoom room = new LoadRoom(4, 4, 1);
        room.piece(2, 1, 1, 1);
        room.piece(2, 1, 1, 1);
        room.piece(4, 1, 1, 10);
        room.piece(2, 1, 1, 1);
        room.piece(2, 1, 1, 1);
        room.limit(0, 11);
        room.limit(1, 11);
        room.limit(3, 11);
        room.limit(4, 11);
        Check.is("two stacks under a long one", room.pack(1000), 12);
        room.limit(2, 0);
        Check.is("the long one bears none", room.pack(1000), 12);
        Check.is("so it is the highest", room.at(2, 1), 2);
        Check.is("each of the lowest bears the one above and all of the long one", room.at(0, 5), 11);
        room.limit(0, 10);
        room.limit(1, 10);
        room.limit(3, 10);
        room.limit(4, 10);
        Check.is("too much for the lowest ones of four", room.pack(1000), 8);
    }

    private static void doesNotBearWhatIsBeside() {
        LoadRoom room = new LoadRoom(3, 2, 1);
        room.piece(2, 1, 1, 9);
        room.piece(1, 1, 1, 9);
        room.piece(1, 1, 1, 9);
        room.limit(0, 0);
        Check.is("a pile beside it", room.pack(1000), 4);
        Check.is("it bears none", room.at(0, 5), 0);
    }

    private static void forgetsWhatWasPacked() {
        LoadRoom room = Packed.room();
        room.limit(0, 1);
        Packed.isGone(room, "another limit");
        LoadRoom same = Packed.room();
        same.limit(0, 100000);
        Packed.isGone(same, "the same limit");
    }

    private static void refusesWrongNumbers() {
        LoadRoom room = Packed.room();
        int[] noPieces = {-1, 2, 8, Integer.MIN_VALUE, Integer.MAX_VALUE};
        for (int piece : noPieces) {
            Check.refuses("limit(" + piece + ", 0)", IndexOutOfBoundsException.class, () -> room.limit(piece, 0));
            Check.refuses("limit(" + piece + ", -1)", IndexOutOfBoundsException.class, () -> room.limit(piece, -1));
        }
        int[] noLimits = {-1, 100001, Integer.MIN_VALUE, Integer.MAX_VALUE};
        for (int above : noLimits) {
            Check.refuses("limit(0, " + above + ")", IllegalArgumentException.class, () -> room.limit(0, above));
        }
        Packed.isThere(room, "refused");
        Check.is("limit after refusals", room.limit(0, 5), 100000);
    }
}
