/** Promise 9: steps. */
public final class StepsTest {

    public static void main(String[] args) {
        LoadRoom room = new LoadRoom(2, 1, 1);
        Check.is("a new one", room.steps(), LoadRoom.NONE);
        room.pack(7);
        Check.is("no pieces", room.steps(), 0);
        room.piece(1, 1, 1, 1);
        Check.is("a piece came", room.steps(), LoadRoom.NONE);
        room.piece(1, 1, 1, 1);
        room.piece(1, 1, 1, 1);
        for (int steps = 1; steps <= 9; steps++) {
            room.pack(steps);
            Check.is("told " + steps, room.steps(), steps);
        }
        room.pack(10);
        Check.is("3, and 3 times 2: told 10", room.steps(), 9);
        Check.refuses("pack(1001)", IllegalArgumentException.class, () -> room.pack(1001));
        Check.is("refused: as before", room.steps(), 9);
        room.turn(2, 1);
        Check.is("marks were changed", room.steps(), LoadRoom.NONE);
        room.pack(5);
        room.order(2, 0);
        Check.is("a stop was told", room.steps(), LoadRoom.NONE);
        room.pack(5);
        room.limit(2, 0);
        Check.is("a limit was changed", room.steps(), LoadRoom.NONE);
        room.pack(5);
        Check.refuses("turn(0, 4)", IllegalArgumentException.class, () -> room.turn(0, 4));
        Check.refuses("order(3, 0)", IndexOutOfBoundsException.class, () -> room.order(3, 0));
        room.axle(3);
        Check.is("an axle changes nothing", room.steps(), 5);
        theMostSteps();
        Check.end();
    }

    private static void theMostSteps() {
        LoadRoom room = new LoadRoom(8, 8, 8);
        for (int i = 0; i < 8; i++) {
            room.piece(1, 1, 1, 1);
        }
        room.pack(1000);
        Check.is("1000 of far more", room.steps(), 1000);
    }
}
