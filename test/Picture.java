/** All that an object tells of itself, as one text; taking it is no change. */
final class Picture {
    /** With more letters only the first and the last ones are looked at: an object lives for 512 calls. */
    private static final int LETTERS_AT_EACH_END = 12;
    private static final int LONGEST_OUTPUT = 400;

    private Picture() {
    }

    /** Everything, also what undo leaves as it is. */
    static String whole(MulePostBishops x) {
        return "text " + x.append(0, 0, 0, 0, 0) + " error " + x.errorCode() + " at " + x.errorPosition() + "\n" + game(x);
    }

    /** Everything but the text buffer and its errors. */
    static String game(MulePostBishops x) {
        StringBuilder text = new StringBuilder("output ");
        int one = x.outputByte(0);
        for (int i = 1; i <= LONGEST_OUTPUT && one != MulePostBishops.NONE; i++) {
            text.append((char) one);
            one = x.outputByte(i);
        }
        line(text, "undo", x.undoCount());
        int size = x.boardSize();
        int passes = x.passCount();
        line(text, "day", x.day(), x.month(), size, x.moveLimit(), x.areBoardsEqual(), x.daysUntilEqual());
        line(text, "statistics", x.duplicateCount(), x.meanTravel(), x.contradictions());
        for (int player = 0; player < 2; player++) {
            ofPlayer(text, x, player, size * size);
        }
        for (int pass = 0; pass < passes; pass++) {
            ofPass(text, x, pass);
        }
        int letters = x.letterCount();
        line(text, "letters", letters);
        for (int i = 0; i < letters; i++) {
            if (i < LETTERS_AT_EACH_END || i >= letters - LETTERS_AT_EACH_END) {
                line(text, "letter " + i, x.writer(i), x.letterNumber(i), x.isPromise(i), x.letterState(i), x.arrivalDay(i));
            }
        }
        return text.toString();
    }

    private static void ofPlayer(StringBuilder text, MulePostBishops x, int p, int squares) {
        text.append("\nboard ");
        for (int square = 0; square < squares; square++) {
            text.append(".wb".charAt(x.bishopOwner(p, square) + 1));
        }
        text.append(" moves");
        int count = x.moveCount(p);
        for (int number = 1; number <= count; number++) {
            text.append(' ').append(x.movedFrom(p, number)).append('-').append(x.movedTo(p, number));
        }
        line(text, "game", count, x.isTurn(p), x.isOver(p), x.winner(p), x.mobility(p, 0), x.mobility(p, 1),
                x.bishopCount(p, 0), x.bishopCount(p, 1), x.storedMoves(p));
        line(text, "waits", x.awaitedLetter(p), x.reasonToWait(p), x.keptPromises(p), x.longestWait(p), x.meanWait(p));
        line(text, "ahead", x.daysUntilTurn(p), x.fastestPass(p));
    }

    private static void ofPass(StringBuilder text, MulePostBishops x, int pass) {
        line(text, "pass " + pass, x.travelDays(pass), x.mules(pass, 0), x.mules(pass, 1), x.queueLength(pass, 0),
                x.queueLength(pass, 1));
        for (int month = 0; month < 12; month++) {
            text.append(' ').append(x.snowDepth(pass, month));
        }
    }

    private static void line(StringBuilder text, String name, Object... answers) {
        text.append('\n').append(name);
        for (Object answer : answers) {
            text.append(' ').append(answer);
        }
    }
}
