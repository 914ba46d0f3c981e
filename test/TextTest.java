/** Promises 1 to 7: a new object and the texts. */
public final class TextTest {
    private static final int NONE = MulePostBishops.NONE;
    private static final int SYNTAX = MulePostBishops.SYNTAX;
    private static final int OUT_OF_RANGE = MulePostBishops.OUT_OF_RANGE;
    private static final int OCCUPIED = MulePostBishops.OCCUPIED;
    private static final int TOO_MANY = MulePostBishops.TOO_MANY;

    public static void main(String[] args) {
        promise1NewObject();
        promise2Append();
        promise3Truncate();
        promise4Load();
        promise4AfterForecasts();
        promise4Grammar();
        promise4Ranges();
        promise4Limits();
        promise5RunScript();
        promise5WhereItEnds();
        promise5Repeat();
        promise5Grammar();
        promise5Ranges();
        promise5Limits();
        promises6And7Errors();
        Check.end();
    }

    private static void promise1NewObject() {
        MulePostBishops x = new MulePostBishops();
        Check.same("board of 0", ".b..b./.....b/....../....../w...../.w..w.", Check.board(new MulePostBishops(), 0));
        Check.same("board of 1", ".b..b./.....b/....../....../w...../.w..w.", Check.board(new MulePostBishops(), 1));
        Check.same("boardSize()", 6, x.boardSize());
        Check.same("moveLimit()", 40, x.moveLimit());
        Check.same("passCount()", 2, x.passCount());
        Check.same("snowDepth(0, 0)", 4, x.snowDepth(0, 0));
        Check.same("snowDepth(0, 1)", 9, x.snowDepth(0, 1));
        Check.same("snowDepth(1, 0)", 0, x.snowDepth(1, 0));
        Check.same("snowDepth(1, 1)", 2, x.snowDepth(1, 1));
        Check.same("travelDays(0)", 7, x.travelDays(0));
        Check.same("travelDays(1)", 5, x.travelDays(1));
        Check.same("mules", "1120", "" + x.mules(0, 0) + x.mules(0, 1) + x.mules(1, 0) + x.mules(1, 1));
        Check.same("day()", 0, x.day());
        Check.same("letterCount()", 0, x.letterCount());
        Check.same("undoCount()", 0, x.undoCount());
        Check.same("truncate(0)", 0, x.truncate(0));
        Check.wrongArgument("truncate(1)", () -> x.truncate(1));
        Check.same("outputByte(0)", NONE, x.outputByte(0));
        Check.fails("restore(0)", java.util.NoSuchElementException.class, () -> x.restore(0));
        Check.fails("restore(1)", java.util.NoSuchElementException.class, () -> x.restore(1));
    }

    private static void promise2Append() {
        MulePostBishops x = new MulePostBishops();
        Check.same("append of nothing", 0, x.append(0, 0, 0, 0, 0));
        Check.same("append without zeros", 4, x.append(0x61006200, 0, 0x00630000, 0, 0x64));
        Check.same("append of high bytes", 9, x.append(-1, 0, 0, 0, 0x80000000));
        Check.same("truncate(0)", 9, x.truncate(0));
        // the order of the bytes: the text is right only in the written order
        x.append('g' << 24 | 'a' << 16 | 'm' << 8 | 'e', ' ' << 24 | '4' << 16 | ' ' << 8 | '1', ';' << 24 | 'p', 'a' << 8,
                's' << 16 | 's' << 8);
        Check.type(x, " 1 1 1;");
        Check.same("load()", 0, x.load());
        Check.same("boardSize()", 4, x.boardSize());
        for (int i = 1; i <= 40; i++) {
            Check.same("append of twenty", 20 * i, x.append(-1, -1, -1, -1, -1));
        }
        Check.same("append of nothing to 800", 800, x.append(0, 0, 0, 0, 0));
        Check.wrongState("append of the 801st", () -> x.append(0, 0, 1, 0, 0));
        Check.same("truncate(799)", 1, x.truncate(799));
        Check.wrongState("append of two to 799", () -> x.append(1, 0, 0, 0, 1));
        Check.same("append of the 800th", 800, x.append(0, 0, 0, 0, 1));
        Check.same("truncate(797)", 3, x.truncate(797));
        Check.wrongState("a is too long", () -> x.append(-1, 0, 0, 0, 0));
        Check.wrongState("b is too long", () -> x.append(0, -1, 0, 0, 0));
        Check.wrongState("c is too long", () -> x.append(0, 0, -1, 0, 0));
        Check.wrongState("d is too long", () -> x.append(0, 0, 0, -1, 0));
        Check.wrongState("e is too long", () -> x.append(0, 0, 0, 0, -1));
        Check.same("what fits", 800, x.append(1, 0, 1 << 24, 0, 1 << 8));
    }

    private static void promise3Truncate() {
        MulePostBishops x = new MulePostBishops();
        Check.type(x, "game 4 1;pass 1 1 1;snow");
        Check.wrongArgument("truncate(25)", () -> x.truncate(25));
        Check.wrongArgument("truncate(-1)", () -> x.truncate(-1));
        Check.wrongArgument("truncate(min)", () -> x.truncate(Integer.MIN_VALUE));
        Check.same("truncate(24)", 0, x.truncate(24));
        Check.same("truncate(20)", 4, x.truncate(20));
        Check.wrongArgument("truncate(21)", () -> x.truncate(21));
        Check.same("load()", 0, x.load());
        Check.same("boardSize()", 4, x.boardSize());
    }

    private static void promise4Load() {
        MulePostBishops x = Games.overtaking();
        x.setSnow(0, 0, 0);
        x.save(0);
        x.save(1);
        int bytes = x.writeMoves(1);
        String before = Check.board(x, 0);
        // a wrong setup leaves everything but the buffer
        Check.same("a wrong load", SYNTAX, Check.load(x, "game 4 1; bishop 0 0 0; pass 1 1 1; pas"));
        Check.same("truncate(0)", 0, x.truncate(0));
        Check.same("board", before, Check.board(x, 0));
        Check.same("day()", 4, x.day());
        Check.same("letterCount()", 4, x.letterCount());
        Check.same("undoCount()", 7, x.undoCount());
        Check.same("restore(1)", 4, x.restore(1));
        x.setSnow(0, 0, 0);
        x.advance(20);
        x.resend(0, 1);
        x.advance(5);
        bytes = x.writeMoves(1);
        // a right one starts anew
        Check.same("a right load", 0, Check.load(x, "game 5 7; bishop 0 4 0; bishop 1 0 1; pass 2 3 4; pass 3 0 9;snow 1 11 9;"));
        Check.same("truncate(0)", 0, x.truncate(0));
        Check.same("outputByte(0) as before", (int) '0', x.outputByte(0));
        Check.same("outputByte(last) as before", (int) '2', x.outputByte(bytes - 1));
        Check.same("boardSize()", 5, x.boardSize());
        Check.same("moveLimit()", 7, x.moveLimit());
        Check.same("board", "w..../...../...../...../.b...", Check.board(x, 1));
        Check.same("passes", "2349", "" + x.passCount() + x.mules(0, 0) + x.mules(0, 1) + x.mules(1, 1));
        Check.same("snow", "90", "" + x.snowDepth(1, 11) + x.snowDepth(1, 0));
        Check.same("day()", 0, x.day());
        Check.same("letterCount()", 0, x.letterCount());
        Check.same("queueLength(0, 0)", 0, x.queueLength(0, 0));
        Check.same("undoCount()", 0, x.undoCount());
        Check.fails("restore(0)", java.util.NoSuchElementException.class, () -> x.restore(0));
        Check.fails("restore(1)", java.util.NoSuchElementException.class, () -> x.restore(1));
        for (int p = 0; p < 2; p++) {
            Check.same("moveCount", 0, x.moveCount(p));
            Check.same("storedMoves", 0, x.storedMoves(p));
            Check.same("keptPromises", 0, x.keptPromises(p));
            Check.same("longestWait", 0, x.longestWait(p));
            Check.same("meanWait", 0.0, x.meanWait(p));
        }
        Check.same("meanTravel", 0.0f, x.meanTravel());
        Check.same("duplicateCount", 0, x.duplicateCount());
        Check.same("contradictions", 0, x.contradictions());
        Check.same("promises are forgotten", 2, x.promise(1, 0, 20, 16, 1, 5));
    }

    /** A new game is new whatever was played, loaded or foretold before. */
    private static void promise4AfterForecasts() {
        // move 2 never arrives, and move 4 is stored for ever
        MulePostBishops x = Check.start("game 8 60; bishop 0 0 0; bishop 1 7 0; pass 9 0 0; pass 1 9 9;");
        x.move(0, 0, 9, 1);
        x.promise(0, 1, 56, 49, 9, 18);
        x.advance(2);
        x.move(1, 56, 49, 0);
        x.move(1, 49, 42, 1);
        x.resend(3, 1);
        Check.same("daysUntilTurn(0)", NONE, x.daysUntilTurn(0));
        MulePostBishops y = Games.overtaking();
        y.resend(0, 0);
        y.resend(3, 1);
        Check.same("daysUntilTurn(1)", NONE, y.daysUntilTurn(1));
        MulePostBishops z = Games.overtaking();
        z.resend(0, 0);
        z.advance(3);
        z.resend(0, 0);
        Check.same("daysUntilTurn(0)", 5, z.daysUntilTurn(0));
        MulePostBishops w = Check.start("game 4 9;bishop 0 0 0;bishop 1 2 2;bishop 1 3 2;pass 1 1 1;");
        w.move(0, 0, 10, 0);
        Check.same("daysUntilTurn(1)", 2, w.daysUntilTurn(1));
        // the letter of move 1 waits for ever
        MulePostBishops v = Check.start("game 4 9;bishop 0 0 0;bishop 1 2 2;bishop 1 3 2;pass 1 0 0;");
        v.move(0, 0, 10, 0);
        Check.same("daysUntilTurn(1)", NONE, v.daysUntilTurn(1));
        MulePostBishops[] games = {x, y, z, w, v};
        for (MulePostBishops game : games) {
            Check.same("load()", 0, Check.load(game, "game 4 9;bishop 0 0 0;bishop 0 0 1;bishop 1 2 2;bishop 1 0 3;pass 1 1 1;"));
            Check.same("day()", 0, game.day());
            Check.same("duplicateCount()", 0, game.duplicateCount());
            Check.same("queues", "00", "" + game.queueLength(0, 0) + game.queueLength(0, 1));
            for (int p = 0; p < 2; p++) {
                Check.same("a desk", "0 0 0 0 0.0", game.moveCount(p) + " " + game.storedMoves(p) + " "
                        + game.keptPromises(p) + " " + game.longestWait(p) + " " + game.meanWait(p));
            }
            Check.same("meanTravel()", 0.0f, game.meanTravel());
            Check.same("contradictions()", 0, game.contradictions());
            Check.same("letterCount()", 0, game.letterCount());
            Check.same("no letter is awaited", "-1 -1", game.awaitedLetter(0) + " " + game.awaitedLetter(1));
            Check.same("the only pass", "0 0", game.fastestPass(0) + " " + game.fastestPass(1));
            game.move(0, 0, 10, 0);
            Check.same("letterState(0)", MulePostBishops.WAITING, game.letterState(0));
            Check.same("arrivalDay(0)", 2, game.arrivalDay(0));
            Check.same("isTurn(1)", false, game.isTurn(1));
            Check.same("arrivals", 1, game.advance(2));
            Check.same("isTurn(1)", true, game.isTurn(1));
            Check.same("meanTravel()", 2.0f, game.meanTravel());
            Check.same("contradictions()", 0, game.contradictions());
            game.advance(1);
            game.move(1, 3, 6, 0);
            game.advance(2);
            Check.same("meanWait(0)", 5.0, game.meanWait(0));
            Check.same("meanWait(1)", 0.0, game.meanWait(1));
        }
    }

    private static void wrong(String text, int code, int position) {
        MulePostBishops x = new MulePostBishops();
        Check.same("load of " + text, code, Check.load(x, text));
        Check.same("code after " + text, code, x.errorCode());
        Check.same("position after " + text, position, x.errorPosition());
        Check.same("size after " + text, 6, x.boardSize());
    }

    private static void promise4Grammar() {
        wrong("", SYNTAX, 0);
        wrong("  \n ", SYNTAX, 4);
        wrong(" gam 4 1;pass 1 1 1;", SYNTAX, 1);
        wrong("games 4 1;pass 1 1 1;", SYNTAX, 0);
        wrong("Game 4 1;pass 1 1 1;", SYNTAX, 0);
        wrong("hame 4 1;pass 1 1 1;", SYNTAX, 0);
        wrong("gamez 4 1;pass 1 1 1;", SYNTAX, 0);
        wrong("5 4;pass 1 1 1;", SYNTAX, 0);
        wrong("game four 1;pass 1 1 1;", SYNTAX, 5);
        wrong("game 4;", SYNTAX, 6);
        wrong("game 4 1", SYNTAX, 8);
        wrong("game 4 1  ", SYNTAX, 10);
        wrong("game 4 1 pass 1 1 1;", SYNTAX, 9);
        wrong("game 4 1;", SYNTAX, 9);
        wrong("game 4 1;bishop 0 0 0;", SYNTAX, 22);
        wrong("game 4 1;snow 0 0 0;", SYNTAX, 9);
        wrong("game 4 1;pass 1 1;", SYNTAX, 17);
        wrong("game 4 1;pass 1 1 1", SYNTAX, 19);
        wrong("game 4 1;pass 1 1 1;;", SYNTAX, 20);
        wrong("game 4 1;pass 1 1 1;bishop 0 0 0;", SYNTAX, 20);
        wrong("game 4 1;pass 1 1 1;snow 0 0 0;pass 1 1 1;", SYNTAX, 31);
        wrong("game 4 1;pass 1 1 1;snow 0 0;", SYNTAX, 28);
        wrong("game 4 1;pass 1 1 1; game", SYNTAX, 21);
        wrong("game 4 1;pass 1 1 1; 5", SYNTAX, 21);
        wrong("game 4 1;pass 1 1 1;\t", SYNTAX, 20);
        wrong("game 4 1;pass 1 1 1;\u00ff", SYNTAX, 20);
        wrong("game 4 -1;pass 1 1 1;", SYNTAX, 7);
        wrong("game 4 1;bishop(0 0 0);pass 1 1 1;", SYNTAX, 15);
        // what is right: tokens side by side, line feeds, leading zeros
        MulePostBishops x = Check.start("\n game0008\n01;bishop0 0\n0000000000000000000;pass1 1 1;snow0 0 5; \n");
        Check.same("boardSize()", 8, x.boardSize());
        Check.same("moveLimit()", 1, x.moveLimit());
        Check.same("bishopOwner(0, 0)", 0, x.bishopOwner(0, 0));
        Check.same("travelDays(0)", 6, x.travelDays(0));
    }

    private static void promise4Ranges() {
        wrong("game 3 1;", OUT_OF_RANGE, 5);
        wrong("game 9 1;", OUT_OF_RANGE, 5);
        wrong("game 4294967300 1;", OUT_OF_RANGE, 5);
        wrong("game 4 0;", OUT_OF_RANGE, 7);
        wrong("game 4 61;", OUT_OF_RANGE, 7);
        wrong("game 4 1;bishop 2 0 0;", OUT_OF_RANGE, 16);
        wrong("game 4 1;bishop 0 4 0;", OUT_OF_RANGE, 18);
        wrong("game 4 1;bishop 0 0 4;", OUT_OF_RANGE, 20);
        wrong("game 5 1;bishop 0 4 5;", OUT_OF_RANGE, 20);
        wrong("game 4 1;pass 0 1 1;", OUT_OF_RANGE, 14);
        wrong("game 4 1;pass 10 1 1;", OUT_OF_RANGE, 14);
        wrong("game 4 1;pass 9 10 1;", OUT_OF_RANGE, 16);
        wrong("game 4 1;pass 9 9 10;", OUT_OF_RANGE, 18);
        wrong("game 4 1;pass 9 0 0;snow 1 0 0;", OUT_OF_RANGE, 25);
        wrong("game 4 1;pass 9 0 0;pass 9 0 0;snow 2 0 0;", OUT_OF_RANGE, 36);
        wrong("game 4 1;pass 9 0 0;snow 0 12 0;", OUT_OF_RANGE, 27);
        wrong("game 4 1;pass 9 0 0;snow 0 11 10;", OUT_OF_RANGE, 30);
        MulePostBishops x = Check.start("game 8 60;bishop 1 7 7;pass 9 9 9;pass 1 0 0;snow 1 11 9;snow 1 11 8;");
        Check.same("the last snow counts", 8, x.snowDepth(1, 11));
        Check.same("moveLimit()", 60, x.moveLimit());
    }

    private static void promise4Limits() {
        wrong("game 4 1;bishop 0 1 2;bishop 0 1 2;", OCCUPIED, 33);
        wrong("game 4 1;bishop 0 1 2;bishop 1 1 2", OCCUPIED, 33);
        wrong("game 4 1;bishop 0 1 2;bishop 1 1 x", SYNTAX, 33);
        StringBuilder eight = new StringBuilder("game 4 1;");
        for (int i = 0; i < 8; i++) {
            eight.append("bishop 0 ").append(i / 4).append(' ').append(i % 4).append(';');
        }
        int end = eight.length();
        wrong(eight + "bishop 0 2 2;", TOO_MANY, end + 7);
        wrong(eight + "bishop 0 9 9;", TOO_MANY, end + 7);
        wrong(eight + "bishop 2 2 2;", OUT_OF_RANGE, end + 7);
        wrong(eight + "bishop 1 0 0;", OCCUPIED, end + 11);
        MulePostBishops x = Check.start(eight + "bishop 1 2 2;pass 1 1 1;pass 1 1 1;pass 1 1 1;pass 1 1 1;");
        Check.same("bishops", "81", "" + x.bishopCount(0, 0) + x.bishopCount(1, 1));
        Check.same("passCount()", 4, x.passCount());
        wrong("game 4 1;pass 1 1 1;pass 1 1 1;pass 1 1 1;pass 1 1 1;pass", TOO_MANY, 53);
        wrong("game 4 1;pass 1 1 1;pass 1 1 1;pass 1 1 1;pass 1 1 1;pas", SYNTAX, 53);
    }

    private static void promise5RunScript() {
        MulePostBishops x = new MulePostBishops();
        Check.same("every command", 6, Check.run(x, "move 0 4 24 0;promise 0 1 31 21 1 22;resend 0 1;mule 1 1;snow 1 0 3;days 8;"));
        Check.same("truncate(0)", 0, x.truncate(0));
        Check.same("undoCount()", 1, x.undoCount());
        Check.same("moves", "4-24", Check.moves(x, 0));
        Check.same("letterCount()", 3, x.letterCount());
        Check.same("isPromise(1)", true, x.isPromise(1));
        Check.same("letterNumber(1)", 3, x.letterNumber(1));
        Check.same("writer(2)", 0, x.writer(2));
        Check.same("arrivalDay(0)", 8, x.arrivalDay(0));
        // base 5 and the new depth 3, posted before the snow came
        Check.same("arrivalDay(1)", 9, x.arrivalDay(1));
        Check.same("mules(1, 1)", 1, x.mules(1, 1));
        Check.same("snowDepth(1, 0)", 3, x.snowDepth(1, 0));
        Check.same("day()", 8, x.day());
        Check.same("promised reply", 2, x.move(1, 31, 21, 1));
        Check.same("undo()", 1, x.undo());
        Check.same("undo() of the script", 0, x.undo());
        Check.same("letterCount()", 0, x.letterCount());
        Check.same("day()", 0, x.day());
        Check.same("snowDepth(1, 0)", 0, x.snowDepth(1, 0));
        Check.same("mules(1, 1)", 0, x.mules(1, 1));
        // a script without commands is a change, a wrong one is not
        Check.same("an empty script", 0, x.runScript());
        Check.same("undoCount()", 1, x.undoCount());
        Check.same("a wrong script", NONE, Check.run(x, "days 5; days"));
        Check.same("truncate(0)", 0, x.truncate(0));
        Check.same("undoCount()", 1, x.undoCount());
        Check.same("day()", 0, x.day());
    }

    private static void promise5WhereItEnds() {
        MulePostBishops x = new MulePostBishops();
        Check.same("before a fault", 2, Check.run(x, "days 1;days 2;move 0 4 5 0;days 4;"));
        Check.same("day()", 3, x.day());
        Check.same("errorCode()", 0, x.errorCode());
        Check.same("undoCount()", 1, x.undoCount());
        String[] faults = {"move 0 4 24 3", "move 0 63 4 0", "move 1 31 26 0", "promise 1 2 4 24 31 24", "promise 0 0 31 26 4 9",
            "promise 1 0 4 3 31 24", "resend 0 0", "resend 79 0", "mule 2 0", "snow 3 0 0"};
        for (String fault : faults) {
            MulePostBishops y = new MulePostBishops();
            Check.same("before " + fault, 1, Check.run(y, "mule 0 0;" + fault + ";mule 0 0;"));
            Check.same("mules(0, 0)", 2, y.mules(0, 0));
            Check.same("letterCount()", 0, y.letterCount());
        }
        // a tenth mule, a repeated promise and a day too late
        Check.same("before the tenth mule", 8, Check.run(x, "repeat 20 (mule 0 0;);days 1;"));
        Check.same("mules(0, 0)", 9, x.mules(0, 0));
        Check.same("day()", 3, x.day());
        Check.same("before the second promise", 1, Check.run(x, "promise 1 0 4 24 31 24;promise 1 0 4 24 31 24;"));
        Games.passUntil(x, 9990);
        Check.same("before day 10000", 9, Check.run(x, "repeat 20(days 1;);"));
        Check.same("day()", 9999, x.day());
        Check.same("outputByte(0) of 0", NONE, x.outputByte(0));
    }

    private static void promise5Repeat() {
        MulePostBishops x = new MulePostBishops();
        Check.same("repeat 0", 1, Check.run(x, "repeat 0 (days 60;);days 1;"));
        Check.same("day()", 1, x.day());
        Check.same("repeat 20", 20, Check.run(x, "repeat 20 (days 2;);"));
        Check.same("day()", 41, x.day());
        Check.same("nested", 20, Check.run(x, "repeat 3 (days 1;repeat 2(days 10;);repeat 3 (days 1;););snow 0 0 1;snow 0 0 2;"));
        Check.same("day()", 113, x.day());
        Check.same("40 at most", 40, Check.run(x, "repeat 20 (days 1;repeat 1(days 2;););days 60;"));
        Check.same("day()", 173, x.day());
        Check.same("40 within a repeat", 40, Check.run(x, "days 1;repeat 20 (repeat 20(days 2;););"));
        Check.same("day()", 252, x.day());
        Check.same("empty brackets", 0, Check.run(x, "repeat 20 (repeat 20 () ; ) ;"));
        Check.same("a fault ends every repeat", 1, Check.run(x, "repeat 5 (repeat 5 (days 1;resend 5 0;);days 1;);days 1;"));
        Check.same("day()", 253, x.day());
    }

    private static void wrongScript(String text, int code, int position) {
        MulePostBishops x = new MulePostBishops();
        Check.same("runScript of " + text, NONE, Check.run(x, text));
        Check.same("code after " + text, code, x.errorCode());
        Check.same("position after " + text, position, x.errorPosition());
        Check.same("undoCount() after " + text, 0, x.undoCount());
    }

    private static void promise5Grammar() {
        wrongScript("jump 1;", SYNTAX, 0);
        wrongScript("days 1", SYNTAX, 6);
        wrongScript("days 1;;", SYNTAX, 7);
        wrongScript("days;", SYNTAX, 4);
        wrongScript("day 1;", SYNTAX, 0);
        wrongScript("days 1 2;", SYNTAX, 7);
        wrongScript("move 0 4 24;", SYNTAX, 11);
        wrongScript("promise 0 0 1 1 1;", SYNTAX, 17);
        wrongScript("repeat 2 days 1;", SYNTAX, 9);
        wrongScript("repeat (days 1;);", SYNTAX, 7);
        wrongScript("repeat 2 (days 1;", SYNTAX, 17);
        wrongScript("repeat 2 (days 1)", SYNTAX, 16);
        wrongScript("repeat 2 (days 1;)", SYNTAX, 18);
        wrongScript("repeat 2 (days 1;) days 1;", SYNTAX, 19);
        wrongScript("days 1;)", SYNTAX, 7);
        wrongScript("(days 1;);", SYNTAX, 0);
        wrongScript("12;", SYNTAX, 0);
        wrongScript("days 1;\r", SYNTAX, 7);
        MulePostBishops x = new MulePostBishops();
        Check.same("without blanks", 3, Check.run(x, "days01;repeat1(days2;days\n3;);\n"));
        Check.same("day()", 6, x.day());
        Check.same("an open bracket", NONE, Check.run(x, "repeat 2 (repeat 2 (days 1;"));
        Check.same("and then none", 2, Check.run(x, "days 1;repeat 1 (repeat 1 (days 2;););"));
        Check.same("day()", 9, x.day());
    }

    private static void promise5Ranges() {
        wrongScript("move 2 0 0 0;", OUT_OF_RANGE, 5);
        wrongScript("move 1 64 0 0;", OUT_OF_RANGE, 7);
        wrongScript("move 1 63 64 0;", OUT_OF_RANGE, 10);
        wrongScript("move 1 63 63 4;", OUT_OF_RANGE, 13);
        wrongScript("promise 2 0 0 0 0 0;", OUT_OF_RANGE, 8);
        wrongScript("promise 1 4 0 0 0 0;", OUT_OF_RANGE, 10);
        wrongScript("promise 1 3 64 0 0 0;", OUT_OF_RANGE, 12);
        wrongScript("promise 1 3 0 64 0 0;", OUT_OF_RANGE, 14);
        wrongScript("promise 1 3 0 0 64 0;", OUT_OF_RANGE, 16);
        wrongScript("promise 1 3 0 0 0 64;", OUT_OF_RANGE, 18);
        wrongScript("resend 80 0;", OUT_OF_RANGE, 7);
        wrongScript("resend 79 4;", OUT_OF_RANGE, 10);
        wrongScript("days 0;", OUT_OF_RANGE, 5);
        wrongScript("days 61;", OUT_OF_RANGE, 5);
        wrongScript("days 99999999999999999999999999999;", OUT_OF_RANGE, 5);
        wrongScript("mule 4 0;", OUT_OF_RANGE, 5);
        wrongScript("mule 3 2;", OUT_OF_RANGE, 7);
        wrongScript("snow 4 0 0;", OUT_OF_RANGE, 5);
        wrongScript("snow 3 12 0;", OUT_OF_RANGE, 7);
        wrongScript("snow 3 11 10;", OUT_OF_RANGE, 10);
        wrongScript("repeat 21 ();", OUT_OF_RANGE, 7);
        MulePostBishops x = new MulePostBishops();
        Check.same("the highest numbers", 2, Check.run(x, "days 60;snow 1 11 9;resend 79 3;"));
        Check.same("squares beyond the board", 0, Check.run(x, "move 0 63 63 0;"));
    }

    private static void promise5Limits() {
        StringBuilder thirty = new StringBuilder();
        for (int i = 0; i < 30; i++) {
            thirty.append("days 1;");
        }
        MulePostBishops x = new MulePostBishops();
        Check.same("30 commands", 30, Check.run(x, thirty.toString()));
        wrongScript(thirty + "days 1;", TOO_MANY, 210);
        wrongScript(thirty + "days", TOO_MANY, 210);
        wrongScript(thirty + "foo", SYNTAX, 210);
        wrongScript(thirty + "7", SYNTAX, 210);
        wrongScript("repeat 1(" + thirty, TOO_MANY, 9 + 29 * 7);
        wrongScript("repeat 1(" + thirty.substring(7) + ");days 1;", TOO_MANY, 9 + 29 * 7 + 2);
        wrongScript("repeat 1(repeat 1(repeat 1(days 1;););", TOO_MANY, 26);
        wrongScript("repeat 1(repeat 1(repeat 1 days 1;););", SYNTAX, 27);
        wrongScript("repeat 1(repeat 1(repeat 21(", OUT_OF_RANGE, 25);
        Check.same("brackets side by side", 4, Check.run(x, "repeat 1(repeat 2(days 1;);repeat 2(days 1;););"));
    }

    private static void promises6And7Errors() {
        MulePostBishops x = new MulePostBishops();
        Check.same("errorCode()", 0, x.errorCode());
        Check.same("errorPosition()", NONE, x.errorPosition());
        Check.load(x, "game 9");
        Check.same("errorCode()", OUT_OF_RANGE, x.errorCode());
        Check.same("errorPosition()", 5, x.errorPosition());
        x.advance(1);
        Check.same("errorCode() after a change", OUT_OF_RANGE, x.errorCode());
        x.undo();
        Check.same("errorCode() after undo", OUT_OF_RANGE, x.errorCode());
        Check.run(x, "days 1;");
        Check.same("errorCode()", 0, x.errorCode());
        Check.same("errorPosition()", NONE, x.errorPosition());
        Check.run(x, "days 1;mule x");
        Check.same("errorCode()", SYNTAX, x.errorCode());
        Check.same("errorPosition()", 12, x.errorPosition());
        Check.load(x, Games.TWO_WALKERS);
        Check.same("errorCode()", 0, x.errorCode());
        Check.same("errorPosition()", NONE, x.errorPosition());
    }
}
