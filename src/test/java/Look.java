/** All that a room answers without being changed, as one text; and what each piece had been told, which changes it. */
final class Look {

    private Look() {
    }

    /** With 8 pieces and 6 axles some 140 calls. */
    static String at(LoadRoom room, int pieces, int axles) {
        StringBuilder seen = new StringBuilder();
        seen.append("exact ").append(room.exact()).append(", steps ").append(room.steps());
        seen.append(", bound ").append(room.bound()).append(", moment ").append(room.moment());
        for (int piece = 0; piece < pieces; piece++) {
            seen.append("; piece ").append(piece).append(": fits ").append(room.fits(piece)).append(", at");
            for (int what = 0; what < 6; what++) {
                seen.append(' ').append(room.at(piece, what));
            }
            seen.append(", touch");
            for (int upper = 0; upper < pieces; upper++) {
                seen.append(' ').append(room.touch(piece, upper));
            }
        }
        for (int axle = 0; axle < axles; axle++) {
            seen.append("; axle ").append(room.load(axle, 0)).append(" / ").append(room.load(axle, 1));
        }
        return seen.toString();
    }

    static String told(LoadRoom room, int pieces) {
        StringBuilder seen = new StringBuilder();
        for (int piece = 0; piece < pieces; piece++) {
            seen.append("piece ").append(piece).append(": marks ").append(room.turn(piece, 0));
            seen.append(", stop ").append(room.order(piece, 0));
            seen.append(", limit ").append(room.limit(piece, 0)).append("; ");
        }
        return seen.toString();
    }
}
