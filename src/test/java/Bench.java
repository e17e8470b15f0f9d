/** What tests share, by extending it: the document's numbers, objects with a saw and a board. */
class Bench {
    static final int UNKNOWN = -1, OUTSIDE = -2, STATE = -3, FULL = -4, NONE = -9;
    static final long LOST = Long.MIN_VALUE;
    static final int NULL = -11, CAST = -12, INDEX = -13, SIZE = -14;
    static final int MIN = Integer.MIN_VALUE, MAX = Integer.MAX_VALUE;

    Bench() {
    }

    static void write(SawLine x, int sheet, int lane, String text) {
        x.sheet(sheet, lane, text.length());
        for (int i = 0; i < text.length(); i++) {
            x.put(sheet, i, text.charAt(i));
        }
    }

    static void writeCodes(SawLine x, int sheet, int lane, int... codes) {
        x.sheet(sheet, lane, codes.length);
        for (int i = 0; i < codes.length; i++) {
            x.put(sheet, i, codes[i]);
        }
    }

    static int saw(SawLine x, String text) {
        write(x, 3, 2, text);
        return x.saw(3, 2, 0, text.length());
    }

    static int board(SawLine x, String text) {
        write(x, 3, 2, text);
        return x.board(3, 2, 0, text.length());
    }

    static SawLine withSaw(String text) {
        SawLine x = new SawLine();
        saw(x, text);
        return x;
    }

    static SawLine withBoard(String text) {
        SawLine x = new SawLine();
        board(x, text);
        return x;
    }

    static SawLine with(String saw, String board) {
        SawLine x = withSaw(saw);
        board(x, board);
        return x;
    }
}
