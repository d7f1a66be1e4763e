/** Writes texts to the tape of a desk. */
final class Feed {
    private Feed() {
    }

    /** Appends a text: the blanks that fill its last twenty bytes are cut off again. */
    static void text(StreamDesk desk, String text) {
        int length = desk.count(2) + text.length();
        for (int at = 0; at < text.length(); at += 20) {
            desk.feed(four(text, at), four(text, at + 4), four(text, at + 8), four(text, at + 12),
                    four(text, at + 16));
        }
        desk.trim(length);
    }

    /** Four bytes of a text as one number, the first one highest; blanks behind its end. */
    static int four(String text, int at) {
        int number = 0;
        for (int i = at; i < at + 4; i++) {
            number = number << 8 | (i < text.length() ? text.charAt(i) & 255 : ' ');
        }
        return number;
    }

    static int compile(StreamDesk desk, String text) {
        text(desk, text);
        return desk.compile();
    }

    static StreamDesk desk(String program) {
        StreamDesk desk = new StreamDesk();
        Due.equal("compile of " + program, compile(desk, program), 0);
        return desk;
    }

    static int push(StreamDesk desk, int source, int time, long... numbers) {
        for (long number : numbers) {
            desk.value(number);
        }
        return desk.push(source, time);
    }

    /** A push to a desk that is stopped; its numbers stay. */
    static void pushRefused(StreamDesk desk, int source, int time, long... numbers) {
        for (long number : numbers) {
            desk.value(number);
        }
        Due.thrown(desk, "push to a desk that is stopped", IllegalStateException.class, () -> desk.push(source, time));
    }
}
