/** The sentences about a new object and about texts that name no boundary, each with a test of its own (promises 1 to 7). */
public final class TextSentenceTest {
    private static final int NONE = MulePostBishops.NONE;
    private static final int SYNTAX = MulePostBishops.SYNTAX;
    private static final int OUT_OF_RANGE = MulePostBishops.OUT_OF_RANGE;
    private static final int OCCUPIED = MulePostBishops.OCCUPIED;
    private static final int TOO_MANY = MulePostBishops.TOO_MANY;
    private static final String SETUP = "game 4 1;pass 1 1 1;";

    private interface Call {
        Object on(MulePostBishops x);
    }

    public static void main(String[] args) {
        newObject();
        lengthsOfTheBuffer();
        setupGrammar();
        misplacedParts();
        scriptGrammar();
        newGame();
        errorCodes();
        latestError();
        noSuchValue();
        sameMeaning();
        Check.end();
    }

    private static void newObject() {
        Check.about("Creates the game of the setup \"game 6 40; bishop 0 0 1; bishop 0 0 4; bishop 0 1 0; bishop 1 5 1; bishop "
                + "1 5 4; bishop 1 4 5; pass 3 1 1; pass 5 2 0; snow 0 0 4; snow 0 1 9; snow 1 1 2;\", with an empty text "
                + "buffer and an empty output.");
        String setup = "game 6 40; bishop 0 0 1; bishop 0 0 4; bishop 0 1 0; bishop 1 5 1; bishop 1 5 4; bishop 1 4 5; pass 3 "
                + "1 1; pass 5 2 0; snow 0 0 4; snow 0 1 9; snow 1 1 2;";
        MulePostBishops x = Check.start(Games.TWO_WALKERS);
        Check.load(x, setup);
        Check.same("the picture of a new object", Picture.whole(x), Picture.whole(new MulePostBishops()));
        MulePostBishops y = new MulePostBishops();
        Check.same("the text buffer", 0, y.append(0, 0, 0, 0, 0));
        Check.same("the output", NONE, y.outputByte(0));
    }

    private static void lengthsOfTheBuffer() {
        Check.about("Returns the number of bytes in the buffer.", "Shortens the text buffer.",
                "Returns the number of bytes that were removed.");
        String text = "days 1;days 2;days 3;days 4;days 5;";
        for (int length = 0; length <= text.length(); length++) {
            MulePostBishops x = new MulePostBishops();
            for (int i = 0; i < text.length(); i++) {
                Check.same("append of byte " + i, i + 1, x.append(0, 0, 0, 0, text.charAt(i)));
            }
            Check.same("truncate(" + length + ")", text.length() - length, x.truncate(length));
            Check.same("append of nothing", length, x.append(0, 0, 0, 0, 0));
            // the first bytes are what is left
            int commands = length / 7;
            boolean right = length % 7 == 0;
            Check.same("runScript() of " + length + " bytes", right ? commands : NONE, x.runScript());
            Check.same("day() after it", right ? commands * (commands + 1) / 2 : 0, x.day());
        }
    }

    // ---- the grammar

    private static void setupGrammar() {
        Check.about("A text consists of tokens.",
                "In the grammar, quoted parts stand for themselves, braces mean any number of repetitions, and a bar separates "
                + "alternatives:",
                "setup = \"game\" size limit \";\" { \"bishop\" player row column \";\" } pass { pass } { \"snow\" passIndex "
                + "month depth \";\" } pass = \"pass\" baseDays mules mules \";\"");
        for (int bishops = 0; bishops <= 4; bishops++) {
            for (int passes = 1; passes <= 4; passes++) {
                for (int snows = 0; snows <= 3; snows++) {
                    StringBuilder text = new StringBuilder("game 5 7 ;");
                    for (int i = 0; i < bishops; i++) {
                        text.append("bishop ").append(i % 2).append(" 3 ").append(i).append(';');
                    }
                    for (int i = 0; i < passes; i++) {
                        text.append("pass ").append(i + 1).append(' ').append(i + 2).append(' ').append(i + 3).append(" ; ");
                    }
                    for (int i = 0; i < snows; i++) {
                        text.append("snow ").append(i % passes).append(' ').append(i + 5).append(' ').append(i + 1).append(";\n");
                    }
                    MulePostBishops x = Check.start(text.toString());
                    Check.same("what was read", "5 7 " + (bishops + 1) / 2 + " " + bishops / 2 + " " + passes, x.boardSize() + " "
                            + x.moveLimit() + " " + x.bishopCount(1, 0) + " " + x.bishopCount(1, 1) + " " + x.passCount());
                    for (int i = 0; i < 4; i++) {
                        Check.same("square " + (15 + i), i < bishops ? i % 2 : NONE, x.bishopOwner(0, 15 + i));
                    }
                    for (int i = 0; i < passes; i++) {
                        Check.same("pass " + i, (i + 1) + " " + (i + 2) + " " + (i + 3), x.travelDays(i) + " " + x.mules(i, 0) + " "
                                + x.mules(i, 1));
                    }
                    for (int i = 0; i < 3; i++) {
                        Check.same("snow in month " + (i + 5), i < snows ? i + 1 : 0, x.snowDepth(i % passes, i + 5));
                    }
                }
            }
        }
    }

    private static void setup(String text, int code, int position) {
        MulePostBishops x = new MulePostBishops();
        Check.same("load() of " + text, code, Check.load(x, text));
        Check.same("errorCode() of " + text, code, x.errorCode());
        Check.same("errorPosition() of " + text, position, x.errorPosition());
    }

    private static void script(String text, int code, int position) {
        MulePostBishops x = new MulePostBishops();
        Check.same("an error in " + text, code != 0, Check.run(x, text) == NONE);
        Check.same("errorCode() of " + text, code, x.errorCode());
        Check.same("errorPosition() of " + text, position, x.errorPosition());
    }

    private static void misplacedParts() {
        Check.about("setup = \"game\" size limit \";\" { \"bishop\" player row column \";\" } pass { pass } { \"snow\" "
                + "passIndex month depth \";\" }");
        String[] words = {"game", "bishop", "pass", "snow"};
        // which parts may follow each of them
        String[] followers = {"bishop pass", "bishop pass", "pass snow", "snow"};
        for (int i = 0; i < 64; i++) {
            int[] order = {i / 16, i / 4 % 4, i % 4};
            StringBuilder text = new StringBuilder();
            int position = order[0] == 0 ? NONE : 0;
            for (int j = 0; j < 3; j++) {
                if (j > 0 && position == NONE && !followers[order[j - 1]].contains(words[order[j]])) {
                    position = text.length();
                }
                text.append(words[order[j]]).append(order[j] == 0 ? " 4 9;" : " 1 " + j + " 1;");
            }
            if (position == NONE && order[2] < 2) {
                // no pass
                position = text.length();
            }
            setup(text.toString().replace("snow 1", "snow 0"), position == NONE ? 0 : SYNTAX, position);
        }
    }

    private static void scriptGrammar() {
        Check.about("script = { command \";\" } command = \"move\" player square square passIndex | \"promise\" player "
                + "passIndex square square square square | \"resend\" letter passIndex | \"days\" count | \"mule\" passIndex "
                + "side | \"snow\" passIndex month depth | \"repeat\" times \"(\" script \")\"");
        String[] commands = {"move 0 1 2 0", "promise 1 0 1 2 3 4", "resend 0 0", "days 1", "mule 0 1", "snow 0 1 2",
                "repeat 1 ( )",
            "repeat 1 ( days 1 ; )", "repeat 1 ( mule 0 1 ; days 1 ; )", "repeat 1 ( repeat 1 ( ) ; )"};
        for (String command : commands) {
            script(command + " ;", 0, NONE);
            script(command + ";" + command + ";days 1;", 0, NONE);
            script("repeat 2(" + command.replace("repeat 1 ( repeat 1 ( ) ; )", "days 1") + ";days 1;);", 0, NONE);
            script(command, SYNTAX, command.length());
            script(command + " ?", SYNTAX, command.length() + 1);
            script(command + " 1;", SYNTAX, command.length() + 1);
            script(command + " days 1;", SYNTAX, command.length() + 1);
            script(command + ");", SYNTAX, command.length());
            if (!command.startsWith("repeat")) {
                // the last number is missing
                int end = command.lastIndexOf(' ');
                script(command.substring(0, end) + ";", SYNTAX, end);
                script("(" + command + ";);", SYNTAX, 0);
            }
        }
        script("", 0, NONE);
        script(";", SYNTAX, 0);
        script("repeat ( );", SYNTAX, 7);
        script("repeat 1 ;", SYNTAX, 9);
        script("repeat 1 ( days 1 );", SYNTAX, 18);
        script("repeat 1 ( ; );", SYNTAX, 11);
    }

    // ---- answers

    private static void newGame() {
        Check.about("Without an error a new game starts:", "Returns 0, or the error code.");
        String[] texts = {Games.TWO_WALKERS, "game 8 60 bishop", "game 8 61;", "game 8 60;bishop 0 1 1;bishop 1 1 1;",
            "game 8 60;" + "pass 1 1 1;".repeat(5)};
        for (int code = 0; code < texts.length; code++) {
            MulePostBishops x = Games.overtaking();
            String before = Picture.game(x);
            Check.same("load() of " + texts[code], code, Check.load(x, texts[code]));
            Check.same("errorCode() of " + texts[code], code, x.errorCode());
            Check.same("the game after " + texts[code], code == 0 ? Picture.game(Check.start(texts[code])) : before,
                    Picture.game(x));
        }
    }

    private static void errorCodes() {
        Check.about("`SYNTAX = 1`: Error code: a token is invalid or not allowed at its place, or the text ends too early.");
        setup("game 4 1;pass 1 1 1;!", SYNTAX, 20);
        setup("game 4 1;pass 1 1 1;bishop", SYNTAX, 20);
        setup("game 4 1;pass 1 1 1", SYNTAX, 19);
        Check.about("`OUT_OF_RANGE = 2`: Error code: a number is out of its range.");
        setup("game 4 61;pass 1 1 1;", OUT_OF_RANGE, 7);
        script("days 61;", OUT_OF_RANGE, 5);
        Check.about("`OCCUPIED = 3`: Error code, reported at the column: a bishop on a square that is already occupied.");
        setup("game 4 1;bishop 0 2 3;bishop 1 2 3;pass 1 1 1;", OCCUPIED, 33);
        Check.about("`TOO_MANY = 4`: Error code: in a setup the player of a ninth bishop of this player, or the word of a "
                + "fifth pass; in a script the word of a 31st command (those in brackets and repeat included), or the bracket "
                + "( inside of two others.");
        StringBuilder nine = new StringBuilder("game 8 1;");
        for (int i = 0; i < 9; i++) {
            nine.append("bishop 1 ").append(i / 8).append(' ').append(i % 8).append(';');
        }
        setup(nine + "pass 1 1 1;", TOO_MANY, 9 + 8 * 13 + 7);
        setup("game 4 1;" + "pass 1 1 1;".repeat(5), TOO_MANY, 9 + 4 * 11);
        script("repeat 1(" + "days 1;".repeat(30) + ");", TOO_MANY, 9 + 29 * 7);
        script("repeat 1(repeat 1(repeat 1(", TOO_MANY, 26);
    }

    private static void latestError() {
        Check.about("Returns the error code of the latest call of load or runScript.",
                "Returns the error position of the latest call of load or runScript.");
        // the text, whether it is a script, and what is due
        String[][] calls = {{"game 9", "0", "2 5"}, {"days 1;", "1", "0 -1"}, {"days x", "1", "1 5"}, {SETUP, "0", "0 -1"},
            {"repeat 1(repeat 1(repeat 1(", "1", "4 26"}, {"", "0", "1 0"}, {"", "1", "0 -1"}};
        MulePostBishops x = new MulePostBishops();
        Check.same("no call yet", "0 -1", x.errorCode() + " " + x.errorPosition());
        for (int round = 0; round < 2; round++) {
            for (String[] call : calls) {
                Object answer = call[1].equals("1") ? Check.run(x, call[0]) : Check.load(x, call[0]);
                Check.same("after " + call[0] + ", which answered " + answer, call[2], x.errorCode() + " " + x.errorPosition());
                // neither the buffer nor the game nor the output has to do with it
                Check.type(x, "??");
                x.truncate(0);
                x.advance(1);
                x.undo();
                x.writeBoard(0);
                Check.same("later after " + call[0], call[2], x.errorCode() + " " + x.errorPosition());
            }
        }
    }

    private static void noSuchValue() {
        Check.about("`NONE = -1`: Returned if there is no such value.");
        Check.same("NONE", -1, NONE);
        MulePostBishops x = Check.start("game 8 60;bishop 0 0 0;bishop 1 7 0;pass 1 0 0;snow 0 0 9;");
        x.move(0, 0, 9, 0);
        Call[] calls = {g -> g.errorPosition(), g -> g.bishopOwner(0, 0), g -> g.winner(0), g -> g.travelDays(0),
                g -> g.awaitedLetter(0),
            g -> g.arrivalDay(0), g -> g.daysUntilTurn(0), g -> g.daysUntilEqual(), g -> g.fastestPass(0), g -> g.outputByte(0),
            g -> Check.run(g, "days")};
        for (int i = 0; i < calls.length; i++) {
            Check.same("call " + i, NONE, calls[i].on(x));
        }
    }

    // ---- commands

    /** Player 0 made move 1, player 1 knows nothing of it yet, and each player may promise. */
    private static MulePostBishops afterMoveOne(int days) {
        MulePostBishops x = new MulePostBishops();
        x.move(0, 4, 24, 0);
        if (days > 0) {
            x.advance(days);
        }
        return x;
    }

    private static Object answer(Call call, MulePostBishops x) {
        try {
            return call.on(x);
        } catch (RuntimeException e) {
            return e.getClass();
        }
    }

    /** A game goes on for a while, so that promises take effect. */
    private static String later(MulePostBishops x) {
        Call[] calls = {g -> g.advance(9), g -> g.move(1, 31, 21, 1), g -> g.advance(9), g -> g.move(0, 1, 8, 1),
                g -> g.advance(9)};
        StringBuilder text = new StringBuilder();
        for (Call call : calls) {
            text.append(answer(call, x)).append('\n');
        }
        return text + Picture.whole(x);
    }

    private static void sameMeaning(String command, int days, Call call) {
        MulePostBishops due = afterMoveOne(days);
        MulePostBishops x = afterMoveOne(days);
        boolean refused = answer(call, due) instanceof Class;
        if (refused) {
            // the script is a change all the same
            due.runScript();
        }
        Check.same("runScript() of " + command, refused ? 0 : 1, Check.run(x, command));
        Check.same("the picture after " + command, Picture.whole(due), Picture.whole(x));
        Check.same("what comes after " + command, later(due), later(x));
    }

    private static void sameMeaning() {
        Check.about("Each command calls the method with the same meaning: move, promise, resend, advance for \"days\", "
                + "addMule, and setSnow.");
        for (int days : new int[] {0, 8}) {
            for (int p = 0; p < 2; p++) {
                int q = p;
                sameMeaning("move " + p + " 31 21 " + p + ";", days, g -> g.move(q, 31, 21, q));
                sameMeaning("move 1 31 " + (21 + 5 * p) + " 0;", days, g -> g.move(1, 31, 21 + 5 * q, 0));
                sameMeaning("move 1 " + (28 + p) + " 34 0;", days, g -> g.move(1, 28 + q, 34, 0));
                sameMeaning("promise " + p + " 1 31 21 1 22;", days, g -> g.promise(q, 1, 31, 21, 1, 22));
                sameMeaning("promise 0 " + p + " 31 21 1 8;", days, g -> g.promise(0, q, 31, 21, 1, 8));
                sameMeaning("promise 0 1 31 " + (26 - 5 * p) + " 1 15;", days, g -> g.promise(0, 1, 31, 26 - 5 * q, 1, 15));
                sameMeaning("promise 0 1 " + (34 - 3 * p) + " 21 1 15;", days, g -> g.promise(0, 1, 34 - 3 * q, 21, 1, 15));
                sameMeaning("promise 0 1 31 21 " + (1 + 5 * p) + " 13;", days, g -> g.promise(0, 1, 31, 21, 1 + 5 * q, 13));
                sameMeaning("promise 1 1 4 24 31 " + (21 + 5 * p) + ";", days, g -> g.promise(1, 1, 4, 24, 31, 21 + 5 * q));
                sameMeaning("resend 0 " + p + ";", days, g -> g.resend(0, q));
                sameMeaning("resend " + p + " 0;", days, g -> g.resend(q, 0));
                sameMeaning("days " + (5 + p) + ";", days, g -> g.advance(5 + q));
                sameMeaning("days " + (20 + 40 * p) + ";", days, g -> g.advance(20 + 40 * q));
                sameMeaning("mule " + p + " 0;", days, g -> g.addMule(q, 0));
                sameMeaning("mule 0 " + p + ";", days, g -> g.addMule(0, q));
                sameMeaning("snow " + p + " 0 3;", days, g -> g.setSnow(q, 0, 3));
                sameMeaning("snow 1 " + p + " 9;", days, g -> g.setSnow(1, q, 9));
                sameMeaning("snow 0 0 " + 9 * p + ";", days, g -> g.setSnow(0, 0, 9 * q));
            }
        }
    }
}
