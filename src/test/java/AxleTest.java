/** Promise 14: axle. */
public final class AxleTest {

    public static void main(String[] args) {
        Doc.open("Promise 14: axle");
        Doc.says("An axle at a place (0 .. 1000)", AxleTest::takesTheLeastAndTheGreatest);
        Doc.says("its number", AxleTest::numbersCountUp);
        Doc.says("IllegalArgumentException", AxleTest::refusesOtherPlaces);
        Doc.says("also if it is not above the last one's", AxleTest::refusesPlacesThatDoNotRise);
        Doc.says("IllegalStateException: there are 6.", AxleTest::refusesASeventh);
        Doc.end();
    }

    private static void takesTheLeastAndTheGreatest() {
        LoadRoom room = new LoadRoom(1, 1, 1);
        Check.is("axle(0)", room.axle(0), 0);
        Check.is("axle(1)", room.axle(1), 1);
        Check.is("axle(999)", room.axle(999), 2);
        Check.is("axle(1000)", room.axle(1000), 3);
        LoadRoom far = new LoadRoom(1, 1, 1);
        Check.is("axle(1000) at first", far.axle(1000), 0);
        LoadRoom packed = Packed.room();
        packed.axle(1);
        Check.is("what was packed is there: steps()", packed.steps(), 4);
        Check.is("what was packed is there: moment()", packed.moment(), 19);
        Check.is("both pieces weigh at 1", packed.load(1, 0), 7);
        Check.is("and none at 0", packed.load(0, 0), 0);
    }

    private static void numbersCountUp() {
        LoadRoom room = new LoadRoom(1, 1, 1);
        for (int i = 0; i < 6; i++) {
            Check.is("axle " + i, room.axle(10 * i), i);
        }
    }

    private static void refusesOtherPlaces() {
        LoadRoom room = new LoadRoom(1, 1, 1);
        LoadRoom packed = Packed.room();
        int[] noPlaces = {-1, 1001, Integer.MIN_VALUE, Integer.MAX_VALUE};
        for (int place : noPlaces) {
            Check.refuses("axle(" + place + ") at first", Check.ARGUMENT, () -> room.axle(place));
            Check.refuses("axle(" + place + ") as the second", Check.ARGUMENT, () -> packed.axle(place));
        }
        Check.refuses("there is still none: load(0, 0)", Check.ARITHMETIC, () -> room.load(0, 0));
        Check.refuses("there is still one: load(1, 0)", Check.INDEX, () -> packed.load(1, 0));
        Packed.isThere(packed, "refused");
        Check.is("the number that is next", packed.axle(2), 1);
    }

    private static void refusesPlacesThatDoNotRise() {
        LoadRoom room = new LoadRoom(1, 1, 1);
        room.axle(0);
        Check.refuses("axle(0) again", Check.ARGUMENT, () -> room.axle(0));
        room.axle(500);
        Check.refuses("axle(500) again", Check.ARGUMENT, () -> room.axle(500));
        Check.refuses("axle(499)", Check.ARGUMENT, () -> room.axle(499));
        Check.refuses("axle(0)", Check.ARGUMENT, () -> room.axle(0));
        Check.is("axle(501)", room.axle(501), 2);
        room.axle(1000);
        Check.refuses("axle(1000) again", Check.ARGUMENT, () -> room.axle(1000));
        Check.refuses("axle(999)", Check.ARGUMENT, () -> room.axle(999));
    }

    private static void refusesASeventh() {
        LoadRoom room = new LoadRoom(1, 1, 1);
        for (int i = 0; i < 5; i++) {
            room.axle(10 * i);
        }
        Check.is("the sixth", room.axle(50), 5);
        Check.refuses("a seventh", Check.STATE, () -> room.axle(51));
        Check.refuses("a seventh, the farthest", Check.STATE, () -> room.axle(1000));
        Check.refuses("a seventh, not above the last one", Check.ARGUMENT, () -> room.axle(50));
        Check.refuses("a seventh, not above the first one", Check.ARGUMENT, () -> room.axle(0));
        Check.refuses("a seventh, too near", Check.ARGUMENT, () -> room.axle(-1));
        Check.refuses("a seventh, too far", Check.ARGUMENT, () -> room.axle(1001));
        Check.is("the sixth is there", room.load(5, 1), 1);
        Check.refuses("there is no seventh", Check.INDEX, () -> room.load(6, 0));
    }
}
