import java.math.BigInteger;

/** Each sentence about texts that names a boundary, with a test of its own (promises 2 to 7). */
public final class TextBoundaryTest {
    private static final int NONE = MulePostBishops.NONE;
    private static final int SYNTAX = MulePostBishops.SYNTAX;
    private static final int OUT_OF_RANGE = MulePostBishops.OUT_OF_RANGE;
    private static final int OCCUPIED = MulePostBishops.OCCUPIED;
    private static final int TOO_MANY = MulePostBishops.TOO_MANY;
    private static final String SETUP = "game 4 1;pass 1 1 1;";

    public static void main(String[] args) {
        bufferOf800Bytes();
        bufferThatWouldBeTooLong();
        bytesOfAppend();
        truncate();
        emptiedBuffer();
        everyByte();
        leadingZeros();
        textsThatEndTooEarly();
        wrongTokens();
        rangesOfSetups();
        rangesOfScripts();
        occupiedSquares();
        ninthBishop();
        fifthPass();
        thirtyFirstCommand();
        thirtyRepeats();
        thirdBracket();
        smallestCode();
        firstError();
        fortyCommands();
        timesOfRepeat();
        endOfExecution();
        errorCodeAndPosition();
        Check.end();
    }

    // ---- the buffer

    private static void bufferOf800Bytes() {
        Check.about("A text buffer holds at most 800 bytes.");
        MulePostBishops x = new MulePostBishops();
        Check.type(x, SETUP + " ".repeat(799 - SETUP.length()));
        Check.same("the length", 799, x.append(0, 0, 0, 0, 0));
        Check.same("the 800th byte", 800, x.append(0, 0, ' ', 0, 0));
        Check.wrongState("the 801st byte", () -> x.append(0, 0, ' ', 0, 0));
        Check.same("the length", 800, x.append(0, 0, 0, 0, 0));
        Check.same("load() of 800 bytes", 0, x.load());
        Check.same("boardSize()", 4, x.boardSize());
        setup(" ".repeat(800 - SETUP.length()) + SETUP, 0, NONE);
        setup("game " + "0".repeat(800 - SETUP.length()) + SETUP.substring(5), 0, NONE);
        setup(SETUP + " ".repeat(799 - SETUP.length()) + "x", SYNTAX, 799);
        setup("game 4 1;" + " ".repeat(791), SYNTAX, 800);
        setup("game " + "9".repeat(795), OUT_OF_RANGE, 5);
        setup("a".repeat(800), SYNTAX, 0);
        setup("\n".repeat(800), SYNTAX, 800);
        script(" ".repeat(793) + "days 1;", 1, 0, NONE);
        script(" ".repeat(794) + "days 1", NONE, SYNTAX, 800);
        script("\n".repeat(800), 0, 0, NONE);
    }

    private static void bufferThatWouldBeTooLong() {
        Check.about("Throws `IllegalStateException` if the buffer would hold more than 800 bytes");
        for (int room = 0; room < 20; room++) {
            MulePostBishops x = new MulePostBishops();
            Check.type(x, "a".repeat(800 - room));
            for (int start = 0; start + room + 1 <= 20; start++) {
                int[] n = bytes(start, room + 1);
                Check.wrongState("append of " + (room + 1), () -> x.append(n[0], n[1], n[2], n[3], n[4]));
            }
            Check.same("the length", 800 - room, x.append(0, 0, 0, 0, 0));
            int[] n = bytes(20 - room, room);
            Check.same("append of " + room, 800, x.append(n[0], n[1], n[2], n[3], n[4]));
        }
    }

    /** Five parameters in which some bytes one after the other are a letter, and the others 0. */
    private static int[] bytes(int start, int count) {
        int[] five = new int[5];
        for (int i = start; i < start + count; i++) {
            five[i / 4] |= 'a' << 24 - i % 4 * 8;
        }
        return five;
    }

    private static void bytesOfAppend() {
        Check.about("Appends the four bytes of each parameter, the most significant byte first, to the text buffer.");
        MulePostBishops x = new MulePostBishops();
        Check.same("twenty bytes", 20, x.append(0x64617973, 0x20313b64, 0x61797320, 0x323b6461, 0x7973333b));
        Check.same("days 1;days 2;days3;", 3, x.runScript());
        Check.same("day()", 6, x.day());
        Check.about("Bytes that are 0 are left out.");
        MulePostBishops y = new MulePostBishops();
        Check.same("nothing", 0, y.append(0, 0, 0, 0, 0));
        int length = 0;
        for (int place = 0; place < 20; place++) {
            for (int one : new int[] {1, 127, 128, 255}) {
                int[] five = new int[5];
                five[place / 4] = one << 24 - place % 4 * 8;
                length++;
                Check.same("byte " + one + " at " + place, length, y.append(five[0], five[1], five[2], five[3], five[4]));
            }
        }
        Check.same("the first bytes 1, 127, 128, 255", NONE, y.runScript());
        MulePostBishops z = new MulePostBishops();
        z.append(0x64006100, 0, 0x00790073, 0x31, 0x3b000000);
        Check.same("days1; between zeros", 1, z.runScript());
    }

    private static void truncate() {
        Check.about("the new length, from 0 to the present length");
        for (int length : new int[] {0, 1, 799, 800}) {
            MulePostBishops x = new MulePostBishops();
            Check.type(x, "a".repeat(length));
            Check.wrongArgument("one too many", () -> x.truncate(length + 1));
            Check.wrongArgument("one too few", () -> x.truncate(-1));
            Check.same("the present length", 0, x.truncate(length));
            Check.same("the length", length, x.append(0, 0, 0, 0, 0));
            if (length > 1) {
                Check.same("one byte less", 1, x.truncate(length - 1));
                Check.same("the length", length - 1, x.append(0, 0, 0, 0, 0));
                Check.wrongArgument("the former length", () -> x.truncate(length));
                Check.same("the rest but one", length - 2, x.truncate(1));
                Check.same("the last one", 1, x.truncate(0));
            } else {
                Check.same("everything", length, x.truncate(0));
            }
            Check.same("the length", 0, x.append(0, 0, 0, 0, 0));
        }
    }

    private static void emptiedBuffer() {
        Check.about("Parses the text buffer as a setup and empties the buffer.");
        for (String text : new String[] {"", SETUP, "game 9", "a".repeat(800)}) {
            MulePostBishops x = new MulePostBishops();
            Check.load(x, text);
            Check.same("the length", 0, x.append(0, 0, 0, 0, 0));
        }
        Check.about("Parses the text buffer as a script, empties the buffer, and executes the script if it has no error.");
        for (String text : new String[] {"", "days 1;", "days 61;", "a".repeat(800)}) {
            MulePostBishops x = new MulePostBishops();
            Check.run(x, text);
            Check.same("the length", 0, x.append(0, 0, 0, 0, 0));
        }
    }

    // ---- tokens

    private static void setup(String text, int code, int position) {
        MulePostBishops x = new MulePostBishops();
        Check.same("load() of " + text, code, Check.load(x, text));
        Check.same("errorCode() of " + text, code, x.errorCode());
        Check.same("errorPosition() of " + text, position, x.errorPosition());
        if (code != 0) {
            Check.same("boardSize() after " + text, 6, x.boardSize());
        }
    }

    private static MulePostBishops script(String text, int executed, int code, int position) {
        MulePostBishops x = new MulePostBishops();
        Check.same("runScript() of " + text, executed, Check.run(x, text));
        Check.same("errorCode() of " + text, code, x.errorCode());
        Check.same("errorPosition() of " + text, position, x.errorPosition());
        Check.same("undoCount() of " + text, code == 0 ? 1 : 0, x.undoCount());
        return x;
    }

    private static void everyByte() {
        for (int one = 1; one < 256; one++) {
            boolean blank = one == 32 || one == 10;
            boolean letter = one >= 97 && one <= 122;
            boolean digit = one >= 48 && one <= 57;
            char sign = (char) one;
            Check.about(blank ? "Spaces (byte 32) and line feeds (byte 10) may separate tokens." : letter
                    ? "A word is a maximal run of the letters a to z." : digit ? "A number is a maximal run of decimal digits;"
                    : one == 40 || one == 41 || one == 59 ? "Each of the characters ; ( and ) is a token of its own."
                    : "Every other byte is an invalid token.");
            script(sign + "days 1;", blank ? 1 : NONE, blank ? 0 : SYNTAX, blank ? NONE : 0);
            script("days 1;" + sign, blank ? 1 : NONE, blank ? 0 : SYNTAX, blank ? NONE : 7);
            // a letter makes the word longer; a digit makes 01 to 91
            boolean tooMany = digit && one > '5';
            boolean fits = blank || digit && !tooMany;
            script("days" + sign + "1;", fits ? 1 : NONE, fits ? 0 : tooMany ? OUT_OF_RANGE : SYNTAX, fits ? NONE : letter ? 0 : 4);
            // a digit makes 10 to 19, and a second ; is one too many
            fits = blank || digit;
            MulePostBishops x = script("days 1" + sign + ";", fits ? 1 : NONE, fits ? 0 : SYNTAX,
                    fits ? NONE : sign == ';' ? 7 : 6);
            Check.same("day() after " + one, blank ? 1 : digit ? 10 + one - '0' : 0, x.day());
        }
        Check.about("Each of the characters ; ( and ) is a token of its own.");
        script("repeat1()", NONE, SYNTAX, 9);
        script("repeat1();", 0, 0, NONE);
        script("repeat1());", NONE, SYNTAX, 9);
        script("repeat1(();", NONE, SYNTAX, 8);
    }

    private static void leadingZeros() {
        Check.about("leading zeros are allowed.");
        setup("game 0004 0;", OUT_OF_RANGE, 10);
        setup("game 0004 01;bishop 00 000 03;pass 01 0 00;snow 000 000011 0009;", 0, NONE);
        script("days 00000000000000000000000000000060;", 1, 0, NONE);
        script("days 00000000000000000000000000000061;", NONE, OUT_OF_RANGE, 5);
        script("repeat 0(days 1;);repeat 00020(days 1;);", 20, 0, NONE);
    }

    private static final String LONG_SETUP = "game 4 9 ; bishop 0 1 2 ; bishop 1 2 1 ; pass 1 2 3 ; pass 4 5 6 ; "
            + "snow 1 2 3 ; snow 0 11 9 ;";
    private static final String LONG_SCRIPT = "move 0 4 24 0 ; promise 0 1 31 21 1 22 ; resend 0 1 ; days 2 ; mule 1 1 ; "
            + "snow 1 0 3 ; repeat 2 ( days 1 ; repeat 1 ( mule 0 0 ; ) ; ) ; days 3 ;";

    private static void textsThatEndTooEarly() {
        Check.about("or the length of the text if the text ends too early.");
        for (int end = 0; end < LONG_SETUP.length(); end++) {
            if (LONG_SETUP.charAt(end) == ' ' || end == 0) {
                String text = LONG_SETUP.substring(0, end);
                boolean whole = text.contains("pass") && text.endsWith(";");
                setup(text, whole ? 0 : SYNTAX, whole ? NONE : end);
                setup(text + " \n ", whole ? 0 : SYNTAX, whole ? NONE : end + 3);
            }
        }
        setup(LONG_SETUP, 0, NONE);
        int depth = 0;
        for (int end = 0; end < LONG_SCRIPT.length(); end++) {
            depth += LONG_SCRIPT.charAt(end) == '(' ? 1 : LONG_SCRIPT.charAt(end) == ')' ? -1 : 0;
            if (LONG_SCRIPT.charAt(end) == ' ') {
                String text = LONG_SCRIPT.substring(0, end);
                if (depth == 0 && text.endsWith(";")) {
                    Check.same("an error in " + text, true, Check.run(new MulePostBishops(), text) > 0);
                } else {
                    script(text, NONE, SYNTAX, end);
                    script(text + " \n ", NONE, SYNTAX, end + 3);
                }
            }
        }
        script("", 0, 0, NONE);
        script(LONG_SCRIPT, 11, 0, NONE);
    }

    private static void wrongTokens() {
        Check.about("Error code: a token is invalid or not allowed at its place, or the text ends too early.");
        for (String text : new String[] {LONG_SETUP, LONG_SCRIPT}) {
            String[] tokens = text.split(" ");
            int position = 0;
            for (int i = 0; i < tokens.length; i++) {
                String before = text.substring(0, position);
                String after = text.substring(position + tokens[i].length());
                char first = tokens[i].charAt(0);
                // what stands here is a word, a number or a sign, and nothing of another kind may stand here
                String others = first >= 'a' ? "? 7 ; ( x" : first >= '0' && first <= '9' ? "? ; ( ) x -1" : "? 7 x";
                for (String other : others.split(" ")) {
                    wrong(text == LONG_SCRIPT, before + other + after, position);
                }
                if (first >= 'a') {
                    wrong(text == LONG_SCRIPT, before + tokens[i] + "a" + after, position);
                    wrong(text == LONG_SCRIPT, before + tokens[i].substring(1) + after, position);
                    wrong(text == LONG_SCRIPT, before + tokens[i].substring(0, tokens[i].length() - 1) + after, position);
                }
                position += tokens[i].length() + 1;
            }
        }
    }

    private static void wrong(boolean isScript, String text, int position) {
        if (isScript) {
            script(text, NONE, SYNTAX, position);
        } else {
            setup(text, SYNTAX, position);
        }
    }

    // ---- ranges

    /** A number stands between two parts of a text and may be from low to high. */
    private static void range(boolean isScript, String before, int low, int high, String after) {
        for (int n = low; n <= high; n++) {
            if (n < low + 2 || n > high - 2) {
                number(isScript, before, "" + n, after, 0);
                number(isScript, before, "0" + n, after, 0);
            }
        }
        number(isScript, before, "" + (high + 1), after, OUT_OF_RANGE);
        if (low > 0) {
            number(isScript, before, "" + (low - 1), after, OUT_OF_RANGE);
        }
        number(isScript, before, "-1", after, SYNTAX);
        number(isScript, before, "" + Integer.MAX_VALUE, after, OUT_OF_RANGE);
        // these are in the range if they are cut to 16, 32 or 64 bits
        for (int bits : new int[] {8, 16, 31, 32, 63, 64}) {
            number(isScript, before, BigInteger.ONE.shiftLeft(bits).add(BigInteger.valueOf(low)).toString(), after, OUT_OF_RANGE);
        }
    }

    private static void number(boolean isScript, String before, String number, String after, int code) {
        MulePostBishops x = new MulePostBishops();
        String text = before + number + after;
        int answer = isScript ? Check.run(x, text) : Check.load(x, text);
        Check.same("errorCode() of " + text, code, x.errorCode());
        Check.same("errorPosition() of " + text, code == 0 ? NONE : before.length(), x.errorPosition());
        if (isScript) {
            Check.same("runScript() of " + text, code != 0, answer == NONE);
        } else {
            Check.same("load() of " + text, code, answer);
        }
    }

    private static void rangesOfSetups() {
        Check.about("The size is 4 to 8, the limit 1 to 60, the mules (of side 0, then of side 1) 0 to 9,");
        range(false, "game ", 4, 8, " 1;pass 1 1 1;");
        range(false, "game 4 ", 1, 60, ";pass 1 1 1;");
        range(false, "game 4 1;pass 1 ", 0, 9, " 1;");
        range(false, "game 4 1;pass 1 1 ", 0, 9, ";");
        range(false, "game 4 1;pass 1 1 1;pass 1 ", 0, 9, " 1;");
        range(false, "game 4 1;pass 1 1 1;pass 1 1 ", 0, 9, ";");
        Check.about("A pass has base days (1 to 9) and a snow depth (0 to 9) for each of the 12 months (0 to 11).");
        range(false, "game 4 1;pass ", 1, 9, " 1 1;");
        range(false, "game 4 1;pass 1 1 1;pass ", 1, 9, " 1 1;");
        range(false, "game 4 1;pass 1 1 1;snow 0 ", 0, 11, " 0;");
        range(false, "game 4 1;pass 1 1 1;snow 0 0 ", 0, 9, ";");
        Check.about("The players are 0 and 1.");
        range(false, "game 4 1;bishop ", 0, 1, " 0 0;pass 1 1 1;");
        for (int size = 4; size <= 8; size++) {
            Check.about("In a setup a row and a column are 0 to size - 1, and a passIndex is the number of a pass.");
            range(false, "game " + size + " 1;bishop 0 ", 0, size - 1, " 0;pass 1 1 1;");
            range(false, "game " + size + " 1;bishop 1 ", 0, size - 1, " 3;pass 1 1 1;");
            range(false, "game " + size + " 1;bishop 0 0 ", 0, size - 1, ";pass 1 1 1;");
            range(false, "game " + size + " 1;bishop 0 3 ", 0, size - 1, ";pass 1 1 1;");
        }
        for (int passes = 1; passes <= 4; passes++) {
            range(false, "game 4 1;" + "pass 1 1 1;".repeat(passes) + "snow ", 0, passes - 1, " 0 0;");
        }
    }

    private static void rangesOfScripts() {
        Check.about("In a script a square is 0 to 63, a passIndex 0 to 3, and a letter 0 to 79.");
        range(true, "move 0 ", 0, 63, " 9 0;");
        range(true, "move 0 0 ", 0, 63, " 0;");
        range(true, "move 0 0 9 ", 0, 3, ";");
        range(true, "promise 0 ", 0, 3, " 0 0 0 0;");
        range(true, "promise 0 0 ", 0, 63, " 0 0 0;");
        range(true, "promise 0 0 0 ", 0, 63, " 0 0;");
        range(true, "promise 0 0 0 0 ", 0, 63, " 0;");
        range(true, "promise 0 0 0 0 0 ", 0, 63, ";");
        range(true, "resend ", 0, 79, " 0;");
        range(true, "resend 0 ", 0, 3, ";");
        range(true, "mule ", 0, 3, " 0;");
        range(true, "snow ", 0, 3, " 0 0;");
        Check.about("The players are 0 and 1.");
        range(true, "move ", 0, 1, " 0 0 0;");
        range(true, "promise ", 0, 1, " 0 0 0 0 0;");
        Check.about("Side 0 is that of player 0, and side 1 is that of player 1.");
        range(true, "mule 0 ", 0, 1, ";");
        Check.about("A pass has base days (1 to 9) and a snow depth (0 to 9) for each of the 12 months (0 to 11).");
        range(true, "snow 0 ", 0, 11, " 0;");
        range(true, "snow 0 0 ", 0, 9, ";");
        Check.about("the count 1 to 60, and times 0 to 20.");
        range(true, "days ", 1, 60, ";");
        range(true, "repeat ", 0, 20, "(days 1;);");
        range(true, "repeat 1(repeat ", 0, 20, "(days 1;););");
    }

    // ---- OCCUPIED and TOO_MANY

    private static void occupiedSquares() {
        Check.about("Error code, reported at the column: a bishop on a square that is already occupied.");
        for (int size = 4; size <= 8; size++) {
            for (int square : new int[] {0, size - 1, size * size - size, size * size - 1}) {
                for (int players = 0; players < 4; players++) {
                    String text = "game " + size + " 1;bishop " + players / 2 + " " + square / size + " " + square % size
                            + ";bishop " + players % 2 + " " + square / size + " ";
                    setup(text + square % size + ";pass 1 1 1;", OCCUPIED, text.length());
                }
            }
        }
        // the same row and the same column are free
        setup("game 4 1;bishop 0 0 1;bishop 1 1 0;bishop 0 0 0;bishop 1 1 1;pass 1 1 1;", 0, NONE);
    }

    /** Bishops of one player on the first squares of a row of the board, without a blank at the end. */
    private static String bishops(int player, int count, int firstRow) {
        StringBuilder text = new StringBuilder();
        for (int i = 0; i < count; i++) {
            text.append("bishop ").append(player).append(' ').append(firstRow + i / 4).append(' ').append(i % 4).append(';');
        }
        return text.toString();
    }

    private static void ninthBishop() {
        Check.about("in a setup the player of a ninth bishop of this player,");
        for (int player = 0; player < 2; player++) {
            for (int others = 0; others <= 8; others += 4) {
                String eight = "game 6 1;" + bishops(1 - player, others, 0) + bishops(player, 8, 2);
                setup(eight + "pass 1 1 1;", 0, NONE);
                setup(eight + "bishop " + player + " 5 5;pass 1 1 1;", TOO_MANY, eight.length() + 7);
                setup(eight + "bishop " + player + " 2 0;pass 1 1 1;", TOO_MANY, eight.length() + 7);
                setup(eight + "bishop " + player, TOO_MANY, eight.length() + 7);
                int code = others == 8 ? TOO_MANY : 0;
                setup(eight + "bishop " + (1 - player) + " 5 5;pass 1 1 1;", code, code == 0 ? NONE : eight.length() + 7);
            }
        }
        MulePostBishops x = Check.start("game 4 1;" + bishops(0, 8, 0) + bishops(1, 8, 2) + "pass 1 1 1;");
        Check.same("the full board", "bbbb/bbbb/wwww/wwww", Check.board(x, 0));
        Check.same("the full board", "bbbb/bbbb/wwww/wwww", Check.board(x, 1));
    }

    private static void fifthPass() {
        Check.about("or the word of a fifth pass;");
        for (int passes = 1; passes <= 4; passes++) {
            setup("game 4 1;" + "pass 1 1 1;".repeat(passes), 0, NONE);
            Check.same("passCount()", passes, Check.start("game 4 1;" + "pass 1 1 1;".repeat(passes)).passCount());
        }
        String four = "game 4 1;" + "pass 1 1 1;".repeat(4);
        setup(four + "pass 1 1 1;", TOO_MANY, four.length());
        setup(four + "  pass", TOO_MANY, four.length() + 2);
        setup(four + "pass pass", TOO_MANY, four.length());
        setup("game 4 1;", SYNTAX, 9);
    }

    private static void thirtyFirstCommand() {
        Check.about("in a script the word of a 31st command (those in brackets and repeat included),");
        String[] commands = {"move 0 1 1 1;", "promise 0 0 1 1 1 1;", "resend 0 0;", "days 1;", "mule 0 0;", "snow 0 0 0;", "repeat 1();"};
        for (String command : commands) {
            String word = command.substring(0, command.indexOf(' '));
            String first = "repeat 1(" + "days 1;".repeat(10) + "repeat 0(" + "days 2;".repeat(10) + "););" + "mule 1 0;".repeat(7);
            // 29 commands, 17 of which are executed; the moves, the promise and the letter do not exist
            script(first + command, word.matches("days|mule|snow") ? 18 : 17, 0, NONE);
            script(first + "mule 0 0;" + command, NONE, TOO_MANY, first.length() + 9);
            script(first + "mule 0 0;" + word, NONE, TOO_MANY, first.length() + 9);
        }
        String thirty = "repeat 2(" + "days 1;".repeat(29);
        script(thirty + ");", 40, 0, NONE);
        script(thirty + "days 1;);", NONE, TOO_MANY, thirty.length());
        script(thirty + ");days 1;", NONE, TOO_MANY, thirty.length() + 2);
        script("days 1;".repeat(30), 30, 0, NONE);
        script("days 1;".repeat(31), NONE, TOO_MANY, 210);
        script("repeat 1();".repeat(30), 0, 0, NONE);
        script("repeat 1();".repeat(31), NONE, TOO_MANY, 330);
    }

    /** The longest way through a script that executes nothing: 28 empty brackets, each 400 times. */
    private static void thirtyRepeats() {
        Check.about("\"repeat\" itself is not counted.");
        MulePostBishops x = script("repeat 20(" + "repeat 20();".repeat(28) + ");days 7;", 1, 0, NONE);
        Check.same("day()", 7, x.day());
        MulePostBishops y = script("repeat 20(" + "repeat 20();".repeat(27) + "repeat 2(days 1;););", 40, 0, NONE);
        Check.same("day()", 40, y.day());
    }

    private static void thirdBracket() {
        Check.about("or the bracket ( inside of two others.");
        script("repeat 1(repeat 1(days 1;););", 1, 0, NONE);
        script("repeat 1(repeat 1(repeat 1(days 1;););););", NONE, TOO_MANY, 26);
        script("repeat 1(repeat 1(repeat 1 (", NONE, TOO_MANY, 27);
        script("repeat 1(repeat 1(repeat 1", NONE, SYNTAX, 26);
        script("repeat 1(repeat 1(days 1;);repeat 1(days 1;););repeat 1(repeat 1(days 1;););", 3, 0, NONE);
        script("repeat 1(repeat 1(days 1;);repeat 1(repeat 1(", NONE, TOO_MANY, 44);
    }

    private static void smallestCode() {
        Check.about("If several kinds of errors apply to this token, the smallest code is reported.");
        String full = "game 6 1;" + bishops(0, 8, 0) + bishops(1, 8, 2);
        setup(full + "bishop 2 0 0;", OUT_OF_RANGE, full.length() + 7);
        setup(full + "bishop x 0 0;", SYNTAX, full.length() + 7);
        setup(full + "bishop", SYNTAX, full.length() + 6);
        setup("game 4 1;bishop 0 3 3;bishop 0 3 4;", OUT_OF_RANGE, 33);
        setup("game 4 1;bishop 0 3 3;bishop 0 3 ;", SYNTAX, 33);
        String four = "game 4 1;" + "pass 1 1 1;".repeat(4);
        setup(four + "passes 1 1 1;", SYNTAX, four.length());
        setup(four + "snow 0 0 0;pass 1 1 1;", SYNTAX, four.length() + 11);
        String thirty = "days 1;".repeat(30);
        script(thirty + "day 1;", NONE, SYNTAX, 210);
        script(thirty + ";", NONE, SYNTAX, 210);
        script(thirty + ")", NONE, SYNTAX, 210);
        script(thirty + "(", NONE, SYNTAX, 210);
        script(thirty + "1", NONE, SYNTAX, 210);
        script("repeat 1(repeat 1((", NONE, SYNTAX, 18);
        script("repeat 1(repeat 1(days (", NONE, SYNTAX, 23);
        script("repeat 1(repeat 1(days 1(", NONE, SYNTAX, 24);
    }

    private static void firstError() {
        Check.about("The parser reads the tokens from left to right and stops at the first token that has an error.");
        setup("game 9 0; bishop", OUT_OF_RANGE, 5);
        setup("game 4 61 ? ", OUT_OF_RANGE, 7);
        setup("game 4 1;bishop 0 0 0;bishop 0 0 0 ?", OCCUPIED, 33);
        setup("game 4 1;bishop 0 0 0;bishop 0 0 ? 0", SYNTAX, 33);
        script("days 61;days", NONE, OUT_OF_RANGE, 5);
        script("days 1;days 0 ?", NONE, OUT_OF_RANGE, 12);
        script("days 1;? days 0;", NONE, SYNTAX, 7);
        Check.about("The error position is the index of the first byte of the token,");
        setup("   gamer 4 1;", SYNTAX, 3);
        setup("game \n 0000009 1;", OUT_OF_RANGE, 7);
    }

    // ---- execution

    private static void fortyCommands() {
        Check.about("The execution ends before the first command whose method would throw an exception, and after 40 commands;");
        Check.same("day() after 39", 39, script("repeat 19(days 1;days 1;);days 1;", 39, 0, NONE).day());
        Check.same("day() after 40", 40, script("repeat 20(days 1;days 1;);", 40, 0, NONE).day());
        MulePostBishops x = script("repeat 20(days 1;days 1;);days 60;", 40, 0, NONE);
        Check.same("day() after 40", 40, x.day());
        Check.same("day() after 40", 40, script("repeat 20(repeat 20(days 1;););", 40, 0, NONE).day());
        Check.same("day() after 40", 79, script("days 1;repeat 20(repeat 2(days 2;););", 40, 0, NONE).day());
        // the 41st command may be one that would throw
        Check.same("day() after 40", 40, script("repeat 20(days 1;days 1;);resend 0 0;", 40, 0, NONE).day());
        Check.same("undo()", 0, x.undo());
        Check.same("day()", 0, x.day());
    }

    private static void timesOfRepeat() {
        Check.about("the count 1 to 60, and times 0 to 20.");
        for (int outer = 0; outer <= 20; outer += outer == 2 ? 16 : 1) {
            for (int inner = 0; inner <= 20; inner += inner == 2 ? 16 : 1) {
                int due = Math.min(40, outer * (1 + inner) + 1);
                MulePostBishops x = script("repeat " + outer + "(days 1;repeat " + inner + "(days 1;););days 1;", due, 0, NONE);
                Check.same("day() after " + outer + " times " + inner, due, x.day());
            }
        }
        script("repeat 0(resend 0 0;);days 1;", 1, 0, NONE);
        script("repeat 20(repeat 0(resend 0 0;);days 1;);", 20, 0, NONE);
    }

    private static void endOfExecution() {
        Check.about("Commands that were executed before stay in effect.");
        MulePostBishops x = script("days 1;mule 0 0;snow 0 0 1;resend 0 0;days 1;", 3, 0, NONE);
        Check.same("day()", 1, x.day());
        Check.same("mules(0, 0)", 2, x.mules(0, 0));
        Check.same("snowDepth(0, 0)", 1, x.snowDepth(0, 0));
        Check.about("Returns the number of executed commands, or NONE if the text has an error; then the call is not a change.");
        script("resend 0 0;days 1;", 0, 0, NONE);
        script("days 1;resend 0 0;", 1, 0, NONE);
        MulePostBishops y = script("days 1;resend 0 0", NONE, SYNTAX, 17);
        Check.same("day()", 0, y.day());
    }

    private static void errorCodeAndPosition() {
        MulePostBishops x = new MulePostBishops();
        Check.about("Returns the error code, 0 if there was no error or no such call.");
        Check.same("no such call", 0, x.errorCode());
        Check.load(x, "game 9");
        Check.same("of load", OUT_OF_RANGE, x.errorCode());
        x.runScript();
        Check.same("no error", 0, x.errorCode());
        Check.run(x, "x");
        Check.same("of runScript", SYNTAX, x.errorCode());
        Check.load(x, SETUP);
        Check.same("no error", 0, x.errorCode());
        MulePostBishops y = new MulePostBishops();
        Check.about("Returns the position, NONE if there was no error or no such call.");
        Check.same("no such call", NONE, y.errorPosition());
        Check.load(y, "");
        Check.same("of an empty setup", 0, y.errorPosition());
        y.runScript();
        Check.same("of an empty script", NONE, y.errorPosition());
        Check.run(y, "days 1;?");
        Check.same("of runScript", 7, y.errorPosition());
        Check.load(y, SETUP);
        Check.same("no error", NONE, y.errorPosition());
    }
}
