/** The rows that a stream has to have. */
final class Rows {
    private Rows() {
    }

    static void equal(StreamDesk desk, int stream, long[]... want) {
        Due.equal("rows of " + stream, desk.rows(stream), want.length);
        for (int row = 0; row < want.length && row < desk.rows(stream); row++) {
            for (int i = 0; i < want[row].length; i++) {
                Due.equal("cell " + stream + ", " + row + ", " + (i - 1), desk.cell(stream, row, i - 1), want[row][i]);
            }
        }
    }

    /** A held row: its stream, its reason, its time, and its numbers. */
    static void heldEqual(StreamDesk desk, int place, long... want) {
        for (int i = 0; i < want.length; i++) {
            long got = i < 3 ? desk.held(place, i) : desk.heldValue(place, i - 3);
            Due.equal("held row " + place + ", its number " + i, got, want[i]);
        }
    }
}
