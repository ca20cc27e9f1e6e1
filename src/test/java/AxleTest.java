/** Promise 14: axle. */
public final class AxleTest {

    private static final Class<IllegalArgumentException> ARGUMENT = IllegalArgumentException.class;
    private static final Class<IllegalStateException> STATE = IllegalStateException.class;

    public static void main(String[] args) {
        numbersCountUp();
        placesRise();
        theSixthMayBeTheLastPlace();
        changesNoPacking();
        refusalsChangeNothing();
        Check.end();
    }

    private static void numbersCountUp() {
        LoadRoom room = new LoadRoom(1, 1, 1);
        for (int i = 0; i < 6; i++) {
            Check.is("axle " + i, room.axle(10 * i), i);
        }
        Check.refuses("a seventh one", STATE, () -> room.axle(51));
        Check.refuses("a seventh one, the farthest", STATE, () -> room.axle(1000));
        Check.refuses("a seventh one, not above", ARGUMENT, () -> room.axle(50));
        Check.refuses("a seventh one, too far", ARGUMENT, () -> room.axle(1001));
        Check.is("the sixth is there", room.load(5, 1), 1);
        Check.refuses("there is no seventh", IndexOutOfBoundsException.class, () -> room.load(6, 0));
    }

    private static void placesRise() {
        LoadRoom room = new LoadRoom(1, 1, 1);
        int[] wrong = {-1, 1001, Integer.MIN_VALUE, Integer.MAX_VALUE};
        for (int place : wrong) {
            Check.refuses("axle(" + place + ")", ARGUMENT, () -> room.axle(place));
        }
        Check.is("axle(0)", room.axle(0), 0);
        Check.refuses("axle(0) again", ARGUMENT, () -> room.axle(0));
        Check.is("axle(500)", room.axle(500), 1);
        Check.refuses("axle(500) again", ARGUMENT, () -> room.axle(500));
        Check.refuses("axle(499)", ARGUMENT, () -> room.axle(499));
        Check.is("axle(501)", room.axle(501), 2);
        Check.is("axle(1000)", room.axle(1000), 3);
        Check.refuses("axle(1000) again", ARGUMENT, () -> room.axle(1000));
        Check.refuses("axle(1001)", ARGUMENT, () -> room.axle(1001));
    }

    private static void theSixthMayBeTheLastPlace() {
        LoadRoom room = new LoadRoom(1, 1, 1);
        for (int i = 0; i < 6; i++) {
            room.axle(995 + i);
        }
        Check.refuses("a seventh one can't be above", ARGUMENT, () -> room.axle(1000));
    }

    private static void changesNoPacking() {
        LoadRoom room = Packed.room();
        room.axle(1);
        Check.is("steps()", room.steps(), 4);
        Check.is("moment()", room.moment(), 19);
        Check.is("both weigh at 1 now", room.load(1, 0), 7);
        Check.is("and none at 0", room.load(0, 0), 0);
    }

    private static void refusalsChangeNothing() {
        LoadRoom room = Packed.room();
        Check.refuses("axle(0) again", ARGUMENT, () -> room.axle(0));
        Check.refuses("axle(-1)", ARGUMENT, () -> room.axle(-1));
        Check.refuses("axle(1001)", ARGUMENT, () -> room.axle(1001));
        Packed.isThere(room, "refused");
        Check.is("the number that is next", room.axle(2), 1);
    }
}
