/** Makes rooms in few words. */
final class Rooms {

    private Rooms() {
    }

    static LoadRoom box(int width, int height, int depth, int[]... pieces) {
        LoadRoom room = new LoadRoom(width, height, depth);
        for (int[] it : pieces) {
            room.piece(it[0], it[1], it[2], it[3]);
        }
        return room;
    }

    static int[] piece(int width, int height, int depth, int weight) {
        return new int[] {width, height, depth, weight};
    }

    /** Pieces of length 1 on each axis and of weight 1. */
    static LoadRoom ofUnits(int width, int height, int depth, int units) {
        LoadRoom room = new LoadRoom(width, height, depth);
        for (int i = 0; i < units; i++) {
            room.piece(1, 1, 1, 1);
        }
        return room;
    }
}
