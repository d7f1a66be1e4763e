/** All that a desk tells, as a text, so that two desks can be compared. */
final class Look {
    private Look() {
    }

    /** By the calls that change nothing. */
    static String over(StreamDesk desk) {
        StringBuilder told = new StringBuilder();
        for (int what = 0; what < 6; what++) {
            told.append(desk.count(what)).append(' ');
        }
        told.append(desk.errorAt()).append(' ').append(desk.lost()).append(' ').append(desk.isStopped()).append(' ')
                .append(desk.taken()).append(' ').append(desk.digest()).append('\n');
        for (int s = 0; s < desk.count(0); s++) {
            stream(desk, s, told);
        }
        for (int check = 0; check < desk.count(1); check++) {
            told.append("broken ").append(desk.broken(check)).append('\n');
        }
        for (int i = 0; i < desk.count(5); i++) {
            for (int what = 0; what < 3; what++) {
                told.append(desk.held(i, what)).append(' ');
            }
            told.append("held\n");
        }
        return told.toString();
    }

    private static void stream(StreamDesk desk, int s, StringBuilder told) {
        for (int what = 0; what < 4; what++) {
            told.append(desk.stream(s, what)).append(' ');
        }
        told.append(desk.watermark(s)).append(' ').append(desk.windows(s, true)).append(' ').append(desk.windows(s, false))
                .append(' ').append(desk.changed(s)).append(' ').append(desk.rows(s)).append(':');
        for (int row = 0; row < desk.rows(s); row++) {
            for (int column = -1; column < desk.stream(s, 1); column++) {
                told.append(' ').append(desk.cell(s, row, column));
            }
            told.append(';');
        }
        told.append('\n');
    }

    /** By calls that use up what the others do not show: numbers of the next row, bytes of the tape, marks and log. */
    static String through(StreamDesk desk) {
        StringBuilder told = new StringBuilder(over(desk));
        told.append(desk.forget()).append(" numbers\n");
        told.append(desk.compile()).append(" by the tape\n").append(over(desk));
        for (int k = desk.count(4) - 1; k >= 0; k--) {
            told.append(desk.back(k)).append(" gone\n").append(over(desk));
        }
        if (desk.count(0) > 0) {
            told.append(desk.replay()).append(" skipped\n").append(over(desk));
        }
        return told.toString();
    }
}
