/** Promise 15: load. How weights go to axles is in TermsAxlesTest. */
public final class LoadTest {

    public static void main(String[] args) {
        Doc.open("Promise 15: load");
        Doc.says("What weighs on an axle", LoadTest::addsWhatWeighs);
        Doc.says("in lowest terms", LoadTest::isInLowestTerms);
        Doc.says("above (part 0)", LoadTest::tellsWhatIsAbove);
        Doc.says("below (1)", LoadTest::tellsWhatIsBelow);
        Doc.says("ArithmeticException: there is no axle (before all else)", LoadTest::refusesWithoutAxles);
        Doc.says("IndexOutOfBoundsException", LoadTest::refusesNoAxles);
        Doc.says("IllegalArgumentException: another part.", LoadTest::refusesOtherParts);
        Doc.end();
    }

    /** 5 at 2: a third to axle 0, two thirds to 1. 7 at 5 1/2: three eighths to 1, five eighths to 2. */
    private static LoadRoom threeAxles() {
        LoadRoom room = Rooms.box(1, 1, 7, Rooms.piece(1, 1, 4, 5), Rooms.piece(1, 1, 3, 7));
        room.order(0, 1);
        room.pack(1000);
        room.axle(0);
        room.axle(3);
        room.axle(7);
        return room;
    }

    private static void addsWhatWeighs() {
        LoadRoom room = threeAxles();
        Axled.is(room, 0, 5, 3);
        Axled.is(room, 1, 10 * 8 + 21 * 3, 24);
        Axled.is(room, 2, 35, 8);
        room.limit(0, 0);
        for (int axle = 0; axle < 3; axle++) {
            Axled.is(room, axle, 0, 1);
        }
    }

    private static void isInLowestTerms() {
        Axled.is(Axled.one(4, 9, 0, 4), 0, 9, 2);
        Axled.is(Axled.one(4, 8, 0, 4), 0, 4, 1);
        Axled.is(Axled.one(6, 9, 0, 9), 1, 3, 1);
        Axled.is(Axled.one(20, 6, 1, 5), 0, -15, 2);
        Axled.is(Axled.one(3, 5, 0, 7), 0, 55, 14);
        Axled.is(Axled.one(3, 5, 0, 7), 1, 15, 14);
        LoadRoom wide = Axled.one(199, 9999, 0, 1, 1000);
        Axled.is(wide, 0, 0, 1);
        Axled.is(wide, 1, 9999L * 1801 / 9, 1998 / 9);
        Axled.is(wide, 2, 9999L * 197 / 9, 1998 / 9);
    }

    private static void tellsWhatIsAbove() {
        LoadRoom lifted = Axled.one(2, 6, 4, 7);
        Check.is("greater than the weight", lifted.load(0, 0), 12);
        Check.is("below 0", lifted.load(1, 0), -6);
        LoadRoom none = new LoadRoom(1, 1, 1);
        none.axle(3);
        Check.is("nothing weighs", none.load(0, 0), 0);
        LoadRoom far = new LoadRoom(8, 1, 200);
        for (int i = 0; i < 8; i++) {
            far.piece(1, 1, 199, 10000);
        }
        far.pack(8);
        far.axle(999);
        far.axle(1000);
        Check.is("eight of the heaviest far before two near axles", far.load(0, 0), 40000L * (2 * 1000 - 199));
        Check.is("what they lift", far.load(1, 0), -40000L * (2 * 999 - 199));
        Check.is("beyond an int", great().load(1, 0), 9438012840L);
    }

    /** Four weigh at 195 / 2, between 0 and 197; four at 195 + 5 / 2, between 197 and 1000. */
    private static LoadRoom great() {
        LoadRoom room = new LoadRoom(4, 1, 200);
        for (int i = 0; i < 8; i++) {
            room.piece(1, 1, i < 4 ? 195 : 5, i < 4 ? 9999 : 9973);
        }
        Check.is("all eight are packed", room.pack(8), 800);
        room.axle(0);
        room.axle(197);
        room.axle(1000);
        return room;
    }

    private static void tellsWhatIsBelow() {
        LoadRoom lifted = Axled.one(20, 6, 1, 5);
        Check.is("never below 0", lifted.load(0, 1), 2);
        LoadRoom none = new LoadRoom(1, 1, 1);
        none.axle(3);
        Check.is("nothing weighs", none.load(0, 1), 1);
        none.axle(9);
        Check.is("nothing weighs on the first of two", none.load(0, 1), 1);
        Check.is("nothing weighs on the second of two", none.load(1, 1), 1);
        Check.is("of two ways", threeAxles().load(1, 1), 24);
        Check.is("of two long ways", great().load(1, 1), 158191);
    }

    private static void refusesWithoutAxles() {
        LoadRoom bare = Rooms.ofUnits(1, 1, 1, 1);
        bare.pack(1);
        int[][] any = {{0, 0}, {-1, 0}, {0, 2}, {0, -1}, {6, 3}, {Integer.MIN_VALUE, Integer.MAX_VALUE}};
        for (int[] call : any) {
            Check.refuses("no axle: load(" + call[0] + ", " + call[1] + ")", Check.ARITHMETIC,
                    () -> bare.load(call[0], call[1]));
        }
        bare.axle(1000);
        Check.is("an axle: load(0, 0)", bare.load(0, 0), 1);
        Check.refuses("an axle: load(-1, 2)", Check.INDEX, () -> bare.load(-1, 2));
    }

    private static void refusesNoAxles() {
        LoadRoom room = Packed.room();
        int[] noAxles = {-1, 1, 5, 6, Integer.MIN_VALUE, Integer.MAX_VALUE};
        for (int axle : noAxles) {
            Check.refuses("load(" + axle + ", 0)", Check.INDEX, () -> room.load(axle, 0));
            Check.refuses("load(" + axle + ", 2)", Check.INDEX, () -> room.load(axle, 2));
            Check.refuses("load(" + axle + ", -1)", Check.INDEX, () -> room.load(axle, -1));
        }
        Packed.isThere(room, "refused");
        for (int i = 1; i < 6; i++) {
            room.axle(i);
        }
        Check.is("the sixth axle: load(5, 0)", room.load(5, 0), 0);
        Check.refuses("six axles: load(6, 0)", Check.INDEX, () -> room.load(6, 0));
    }

    private static void refusesOtherParts() {
        LoadRoom room = Packed.room();
        int[] noParts = {-1, 2, Integer.MIN_VALUE, Integer.MAX_VALUE};
        for (int part : noParts) {
            Check.refuses("load(0, " + part + ")", Check.ARGUMENT, () -> room.load(0, part));
        }
        Packed.isThere(room, "refused");
        room.turn(0, 0);
        Check.refuses("nothing was packed: load(0, 2)", Check.ARGUMENT, () -> room.load(0, 2));
    }
}
