/** What compile and errorAt have to answer for a program on a new desk. */
final class Verdict {
    private Verdict() {
    }

    static void right(String program) {
        StreamDesk desk = new StreamDesk();
        Due.equal("compile of " + program, Feed.compile(desk, program), 0);
        Due.equal("errorAt of " + program, desk.errorAt(), -1);
        Due.equal("tape behind " + program, desk.count(2), 0);
    }

    /** The program has the error at the only place where the mark ^ stands in it, or behind all. */
    static void wrong(int error, String marked) {
        wrongAt(error, marked.indexOf('^'), marked.replace("^", ""));
    }

    static void wrongAt(int error, int at, String program) {
        StreamDesk desk = new StreamDesk();
        Due.equal("compile of " + program, Feed.compile(desk, program), error);
        Due.equal("errorAt of " + program, desk.errorAt(), at);
        Due.equal("tape behind " + program, desk.count(2), 0);
        Due.equal("streams behind " + program, desk.count(0), 0);
    }
}
