/** Promises 46 to 51: the changes. */
public final class ChangeTest {
    private static final String CORNERS = "game 4 9;bishop 0 0 0;bishop 0 0 1;bishop 1 3 3;bishop 1 0 3;pass 1 5 5;";

    public static void main(String[] args) {
        promise46Move();
        promise46Faults();
        promise46AppliesWhatFollows();
        promise47Promise();
        promise47Faults();
        promise47TheGameWouldBeOver();
        promise47LastNumber();
        promise47ReplyAfterTheMove();
        promise48Resend();
        promise49Advance();
        promise49OrderOfLetters();
        promise50AddMule();
        promise51SetSnow();
        Check.end();
    }

    private static void promise46Move() {
        MulePostBishops x = Check.start(CORNERS);
        Check.same("move 1", 1, x.move(0, 0, 10, 0));
        Check.same("undoCount()", 1, x.undoCount());
        Check.same("own board", "...b/..w./..../.w.b", Check.board(x, 0));
        Check.same("other board", "...b/..../..../ww.b", Check.board(x, 1));
        Check.same("letterCount()", 1, x.letterCount());
        Check.same("queueLength(0, 0)", 1, x.queueLength(0, 0));
        x.advance(2);
        Check.same("other board", "...b/..w./..../.w.b", Check.board(x, 1));
        Check.same("move 2", 2, x.move(1, 15, 10, 0));
        Check.same("queueLength(0, 1)", 1, x.queueLength(0, 1));
        Check.same("a capture", "..../..b./..../.w.b", Check.board(x, 1));
        x.advance(2);
        Check.same("move 3", 3, x.move(0, 1, 6, 0));
    }

    private static void promise46Faults() {
        MulePostBishops x = new MulePostBishops();
        Check.noSuchThing("player 2", () -> x.move(2, 0, 0, 0));
        Check.noSuchThing("player -1", () -> x.move(-1, 4, 24, 0));
        Check.noSuchThing("from 36", () -> x.move(0, 36, 24, 0));
        Check.noSuchThing("from -1", () -> x.move(1, -1, 24, 0));
        Check.noSuchThing("to 36", () -> x.move(0, 4, 36, 0));
        Check.noSuchThing("to -1", () -> x.move(0, 4, -1, 0));
        Check.noSuchThing("pass 2", () -> x.move(0, 4, 24, 2));
        Check.noSuchThing("pass -1 at the other's turn", () -> x.move(1, 4, 4, -1));
        Check.wrongState("the other's turn", () -> x.move(1, 31, 26, 0));
        Check.wrongState("the other's turn and no way", () -> x.move(1, 0, 0, 0));
        Check.wrongArgument("a foreign bishop", () -> x.move(0, 31, 26, 0));
        Check.wrongArgument("no bishop", () -> x.move(0, 0, 7, 0));
        Check.wrongArgument("no diagonal", () -> x.move(0, 4, 3, 0));
        Check.wrongArgument("no way", () -> x.move(0, 4, 4, 0));
        Check.wrongArgument("an own bishop", () -> x.move(0, 1, 6, 0));
        Check.same("undoCount()", 0, x.undoCount());
        Check.same("letterCount()", 0, x.letterCount());
        Check.same("moveCount(0)", 0, x.moveCount(0));
        // 80 letters exist
        MulePostBishops y = Games.fullPost();
        y.advance(30);
        Check.same("its turn", true, y.isTurn(1));
        int undos = y.undoCount();
        Check.wrongState("the 81st letter", () -> y.move(1, 56, 49, 1));
        Check.wrongState("the 81st letter and no way", () -> y.move(1, 56, 57, 1));
        Check.same("undoCount()", undos, y.undoCount());
        // the game is over
        MulePostBishops z = Check.start("game 4 9;bishop 0 0 0;pass 1 1 1;");
        Check.wrongState("when the game is over", () -> z.move(0, 0, 5, 0));
    }

    private static void promise46AppliesWhatFollows() {
        MulePostBishops x = Games.overtaking();
        x.undo();
        x.undo();
        x.undo();
        Check.same("moveCount(1)", 1, x.moveCount(1));
        // player 1 knows the promise: with the expected move its reply is applied at once
        Check.same("the expected move", 2, x.move(1, 56, 49, 0));
        Check.same("moveCount(1)", 3, x.moveCount(1));
        x.undo();
        Check.same("another move", 2, x.move(1, 56, 42, 0));
        Check.same("moveCount(1)", 2, x.moveCount(1));
        x.advance(10);
        Check.same("its writer's turn", true, x.isTurn(0));
    }

    private static void promise47Promise() {
        MulePostBishops x = Check.start(Games.TWO_WALKERS);
        Check.same("number 2", 2, x.promise(1, 1, 0, 18, 56, 49));
        Check.same("undoCount()", 1, x.undoCount());
        Check.same("nothing is applied", "00", "" + x.moveCount(0) + x.moveCount(1));
        Check.same("letter", "1 2 true", x.writer(0) + " " + x.letterNumber(0) + " " + x.isPromise(0));
        Check.same("queueLength(1, 1)", 1, x.queueLength(1, 1));
        x.move(0, 0, 9, 1);
        Check.same("number 3", 3, x.promise(0, 1, 56, 42, 9, 0));
        x.advance(2);
        // its expected move was not played: no effect
        Check.same("isTurn(1)", true, x.isTurn(1));
        Check.same("move 2", 2, x.move(1, 56, 42, 1));
        Check.same("with the promised reply", 3, x.moveCount(1));
        x.advance(2);
        Check.same("on both boards", "0-9 56-42 9-0", Check.moves(x, 0));
        Check.same("equal", true, x.areBoardsEqual());
    }

    private static void promise47Faults() {
        MulePostBishops x = Check.start(Games.TWO_WALKERS);
        Check.noSuchThing("player 2", () -> x.promise(2, 0, 0, 9, 56, 49));
        Check.noSuchThing("player -1", () -> x.promise(-1, 0, 0, 9, 56, 49));
        Check.noSuchThing("pass 2", () -> x.promise(1, 2, 0, 9, 56, 49));
        Check.noSuchThing("pass -1", () -> x.promise(0, -1, 0, 9, 56, 49));
        Check.noSuchThing("expectedFrom 64", () -> x.promise(1, 0, 64, 9, 56, 49));
        Check.noSuchThing("expectedFrom -1", () -> x.promise(1, 0, -1, 9, 56, 49));
        Check.noSuchThing("expectedTo 64", () -> x.promise(1, 0, 0, 64, 56, 49));
        Check.noSuchThing("expectedTo -1", () -> x.promise(1, 0, 0, -1, 56, 49));
        Check.noSuchThing("replyFrom 64", () -> x.promise(1, 0, 0, 9, 64, 49));
        Check.noSuchThing("replyFrom -1", () -> x.promise(1, 0, 0, 9, -1, 49));
        Check.noSuchThing("replyTo 64", () -> x.promise(1, 0, 0, 9, 56, 64));
        Check.noSuchThing("replyTo -1", () -> x.promise(0, 0, 0, 9, 56, -1));
        Check.wrongState("the own turn", () -> x.promise(0, 0, 56, 49, 0, 9));
        Check.wrongArgument("no such move", () -> x.promise(1, 0, 0, 8, 56, 49));
        Check.wrongArgument("an own bishop's move", () -> x.promise(1, 0, 56, 49, 49, 42));
        Check.wrongArgument("no bishop's move", () -> x.promise(1, 0, 9, 18, 56, 49));
        Check.wrongArgument("no such reply", () -> x.promise(1, 0, 0, 9, 56, 57));
        Check.wrongArgument("a foreign reply", () -> x.promise(1, 0, 0, 9, 9, 18));
        Check.same("undoCount()", 0, x.undoCount());
        Check.same("letterCount()", 0, x.letterCount());
        x.promise(1, 0, 0, 9, 56, 49);
        Check.wrongState("the same number again", () -> x.promise(1, 0, 0, 18, 56, 49));
        Check.wrongState("the same number and a wrong move", () -> x.promise(1, 0, 0, 0, 56, 49));
        x.undo();
        Check.same("after undo", 2, x.promise(1, 0, 0, 18, 56, 49));
        MulePostBishops y = Games.fullPost();
        Check.wrongState("the 81st letter", () -> y.promise(0, 0, 56, 49, 9, 18));
        Check.same("letterCount()", 80, y.letterCount());
        MulePostBishops z = Check.start("game 4 9;bishop 0 0 0;pass 1 1 1;");
        Check.wrongState("when the game is over", () -> z.promise(1, 0, 0, 5, 15, 10));
    }

    private static void promise47TheGameWouldBeOver() {
        // the expected move would be the last one of the limit
        MulePostBishops x = Check.start("game 8 1;bishop 0 0 0;bishop 1 7 0;pass 1 1 1;");
        Check.wrongArgument("at the limit", () -> x.promise(1, 0, 0, 9, 56, 49));
        MulePostBishops y = Check.start("game 8 2;bishop 0 0 0;bishop 1 7 0;pass 1 1 1;");
        Check.same("before the limit", 2, y.promise(1, 0, 0, 9, 56, 49));
        y.move(0, 0, 9, 0);
        Check.wrongArgument("at the limit", () -> y.promise(0, 0, 56, 49, 9, 18));
        y.advance(2);
        Check.same("over by a promised reply", "truetrue", "" + y.isOver(0) + y.isOver(1));
        MulePostBishops w = Check.start("game 8 60;bishop 0 0 0;bishop 1 7 0;pass 1 9 9;");
        for (int i = 0; i < 30; i++) {
            w.move(0, i % 2 == 0 ? 0 : 9, i % 2 == 0 ? 9 : 0, 0);
            w.advance(2);
            if (i < 29) {
                w.move(1, i % 2 == 0 ? 56 : 49, i % 2 == 0 ? 49 : 56, 0);
                w.advance(2);
            }
        }
        Check.same("moveCount(0)", 59, w.moveCount(0));
        Check.wrongArgument("the 61st move", () -> w.promise(0, 0, 49, 56, 0, 9));
        // the expected move would capture the last bishop
        MulePostBishops z = Check.start("game 4 9;bishop 0 0 0;bishop 1 3 3;bishop 0 0 1;pass 1 1 1;");
        Check.wrongArgument("a capture of the last", () -> z.promise(1, 0, 0, 15, 15, 10));
        Check.same("another move", 2, z.promise(1, 0, 1, 4, 15, 0));
    }

    private static void promise47LastNumber() {
        MulePostBishops x = Check.start("game 8 60;bishop 0 0 0;bishop 0 0 2;bishop 1 7 0;bishop 1 7 7;pass 1 9 9;");
        for (int i = 0; i < 29; i++) {
            x.move(0, i % 2 == 0 ? 2 : 11, i % 2 == 0 ? 11 : 2, 0);
            x.advance(2);
            x.move(1, i % 2 == 0 ? 56 : 49, i % 2 == 0 ? 49 : 56, 0);
            x.advance(2);
        }
        Check.same("the 60th move", 60, x.promise(1, 0, 11, 2, 63, 0));
        x.move(0, 11, 2, 0);
        x.advance(2);
        Check.same("moveCount(1)", 60, x.moveCount(1));
        Check.same("moveCount(0)", 60, x.moveCount(0));
        Check.same("keptPromises(1)", 1, x.keptPromises(1));
        Check.same("movedTo(0, 60)", 0, x.movedTo(0, 60));
        Check.same("winner(0)", 1, x.winner(0));
        Check.same("the text of the moves", true, Check.moves(x, 0).endsWith(" 11-2 63x0"));
    }

    private static void promise47ReplyAfterTheMove() {
        MulePostBishops x = Check.start(CORNERS);
        // now 3-12 is free and 15-0 captures; after 1-6 the way 3-12 is blocked at 6, and 6 can be captured
        Check.wrongArgument("a way that is blocked then", () -> x.promise(1, 0, 1, 6, 3, 12));
        Check.wrongArgument("a square that is empty then", () -> x.promise(1, 0, 0, 10, 15, 0));
        Check.wrongArgument("a bishop that is captured then", () -> x.promise(1, 0, 0, 15, 15, 10));
        Check.same("a capture of the moved bishop", 2, x.promise(1, 0, 1, 6, 3, 6));
        x.move(0, 1, 6, 0);
        x.advance(2);
        Check.same("board", "...b/..../..b./w...", Check.board(x, 0));
        Check.same("board", "...b/..../..b./w...", Check.board(x, 1));
    }

    private static void promise48Resend() {
        MulePostBishops x = Games.overtaking();
        Check.same("letter 4", 4, x.resend(2, 1));
        Check.same("undoCount()", 7, x.undoCount());
        Check.same("copy", "1 2 false 0", x.writer(4) + " " + x.letterNumber(4) + " " + x.isPromise(4) + " " + x.letterState(4));
        Check.same("queueLength(1, 1)", 1, x.queueLength(1, 1));
        Check.same("letter 5", 5, x.resend(4, 0));
        x.advance(2);
        // the copy of move 2 was faster than move 2
        Check.same("moveCount(0)", 4, x.moveCount(0));
        Check.same("duplicateCount()", 0, x.duplicateCount());
        x.advance(6);
        Check.same("the first letter", 1, x.duplicateCount());
        // the copy of a promise makes it known
        MulePostBishops y = Check.start(Games.TWO_WALKERS);
        y.promise(1, 0, 0, 9, 56, 49);
        y.resend(0, 1);
        y.move(0, 0, 9, 1);
        y.advance(2);
        Check.same("copied promise", "22", "" + y.moveCount(0) + y.moveCount(1));
        Check.noSuchThing("letter 3", () -> y.resend(3, 0));
        Check.noSuchThing("letter -1", () -> y.resend(-1, 0));
        Check.noSuchThing("pass 2", () -> y.resend(0, 2));
        Check.noSuchThing("pass -1", () -> y.resend(0, -1));
        Check.same("letterCount()", 3, y.letterCount());
        MulePostBishops z = Games.fullPost();
        Check.wrongState("the 81st letter", () -> z.resend(0, 0));
        Check.noSuchThing("letter 80", () -> z.resend(80, 0));
        z.undo();
        Check.same("after undo", 41, z.resend(40, 0));
    }

    private static void promise49Advance() {
        MulePostBishops x = Check.start(Games.TWO_WALKERS);
        x.move(0, 0, 9, 1);
        x.resend(0, 0);
        x.resend(0, 1);
        Check.same("one day", 0, x.advance(1));
        Check.same("the second day", 2, x.advance(1));
        Check.same("the day of the slow one", 1, x.advance(8));
        Check.same("no more", 0, x.advance(60));
        Check.same("day()", 70, x.day());
        Check.same("undoCount()", 7, x.undoCount());
        Check.wrongArgument("advance(0)", () -> x.advance(0));
        Check.wrongArgument("advance(61)", () -> x.advance(61));
        Check.wrongArgument("advance(-1)", () -> x.advance(-1));
        Check.wrongArgument("advance(max)", () -> x.advance(Integer.MAX_VALUE));
        Games.passUntil(x, 9950);
        Check.wrongState("advance(50)", () -> x.advance(50));
        Check.wrongArgument("advance(61)", () -> x.advance(61));
        Check.same("day()", 9950, x.day());
        Check.same("advance(49)", 0, x.advance(49));
        Check.same("day()", 9999, x.day());
        Check.wrongState("advance(1)", () -> x.advance(1));
    }

    private static void promise49OrderOfLetters() {
        // two letters of a queue share the only mule: the one that was posted first leaves first
        MulePostBishops x = Check.start("game 8 60;bishop 0 0 0;bishop 1 7 0;pass 1 1 0;");
        x.move(0, 0, 9, 0);
        x.resend(0, 0);
        x.advance(1);
        Check.same("states", "10", "" + x.letterState(0) + x.letterState(1));
        // side 0 goes before side 1, and a mule that arrived can leave on the same day
        x.promise(0, 0, 56, 49, 9, 18);
        x.advance(1);
        Check.same("mules", "01", "" + x.mules(0, 0) + x.mules(0, 1));
        x.move(1, 56, 49, 0);
        x.advance(2);
        Check.same("states on day 4", "2102", "" + x.letterState(0) + x.letterState(1) + x.letterState(2) + x.letterState(3));
        // snow that comes later does not change the remaining days
        x.setSnow(0, 0, 8);
        x.advance(1);
        Check.same("the copy arrives on day 5", 5, x.arrivalDay(1));
        Check.same("it was a duplicate", 1, x.duplicateCount());
    }

    private static void promise50AddMule() {
        MulePostBishops x = new MulePostBishops();
        Check.same("addMule(1, 0)", 3, x.addMule(1, 0));
        Check.same("addMule(1, 1)", 1, x.addMule(1, 1));
        Check.same("undoCount()", 2, x.undoCount());
        Check.same("mules", "1131", "" + x.mules(0, 0) + x.mules(0, 1) + x.mules(1, 0) + x.mules(1, 1));
        for (int i = 4; i <= 9; i++) {
            Check.same("addMule(1, 0)", i, x.addMule(1, 0));
        }
        int undos = x.undoCount();
        Check.wrongState("a tenth mule", () -> x.addMule(1, 0));
        Check.same("undoCount()", undos, x.undoCount());
        Check.same("mules(1, 0)", 9, x.mules(1, 0));
        Check.noSuchThing("pass 2", () -> x.addMule(2, 0));
        Check.noSuchThing("pass -1", () -> x.addMule(-1, 0));
        Check.noSuchThing("side 2", () -> x.addMule(1, 2));
        Check.noSuchThing("side -1", () -> x.addMule(0, -1));
        // more than nine can meet in a stable
        MulePostBishops y = Check.start(Games.TWO_WALKERS);
        y.move(0, 0, 9, 1);
        y.advance(2);
        Check.same("ten mules", 10, y.mules(1, 1));
        Check.wrongState("an eleventh mule", () -> y.addMule(1, 1));
        Check.same("instead of the one that left", 9, y.addMule(1, 0));
    }

    private static void promise51SetSnow() {
        MulePostBishops x = new MulePostBishops();
        Check.same("setSnow(0, 0, 0)", 4, x.setSnow(0, 0, 0));
        Check.same("setSnow(0, 0, 9)", 0, x.setSnow(0, 0, 9));
        Check.same("setSnow(1, 11, 3)", 0, x.setSnow(1, 11, 3));
        Check.same("undoCount()", 3, x.undoCount());
        Check.same("depths", "9930", "" + x.snowDepth(0, 0) + x.snowDepth(0, 1) + x.snowDepth(1, 11) + x.snowDepth(0, 11));
        Check.wrongArgument("depth 10", () -> x.setSnow(0, 0, 10));
        Check.wrongArgument("depth -1", () -> x.setSnow(0, 0, -1));
        Check.noSuchThing("pass 2", () -> x.setSnow(2, 0, 10));
        Check.noSuchThing("pass -1", () -> x.setSnow(-1, 0, 0));
        Check.noSuchThing("month 12", () -> x.setSnow(1, 12, -1));
        Check.noSuchThing("month -1", () -> x.setSnow(1, -1, 0));
        Check.same("undoCount()", 3, x.undoCount());
        // letters under way keep their days, but stand still on a closed pass
        MulePostBishops y = Check.start("game 8 60;bishop 0 0 0;bishop 1 7 0;pass 4 1 0;");
        y.move(0, 0, 9, 0);
        y.advance(2);
        y.setSnow(0, 0, 8);
        Check.same("arrivalDay(0)", 5, y.arrivalDay(0));
        y.setSnow(0, 0, 9);
        Check.same("arrivalDay(0)", 32, y.arrivalDay(0));
    }
}
