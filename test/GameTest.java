import java.util.NoSuchElementException;

/** Promises 8 to 23: the game. */
public final class GameTest {
    private static final int NONE = MulePostBishops.NONE;

    public static void main(String[] args) {
        promises8And9Setup();
        promises10And11Days();
        promise12BishopOwner();
        promise13BishopCount();
        promise14MoveCount();
        promise15IsTurn();
        promise16And17OverByCapture();
        promise16And17OverByLimit();
        promise16And17WithoutBishops();
        promise18CanMove();
        promise19Mobility();
        promises20And21Moves();
        promise22StoredMoves();
        promise23BoardsEqual();
        Check.end();
    }

    private static void promises8And9Setup() {
        MulePostBishops x = Check.start("game 4 60;pass 1 1 1;");
        Check.same("boardSize()", 4, x.boardSize());
        Check.same("moveLimit()", 60, x.moveLimit());
        Check.load(x, "game 8 1;pass 1 1 1;");
        Check.same("boardSize()", 8, x.boardSize());
        Check.same("moveLimit()", 1, x.moveLimit());
    }

    private static void promises10And11Days() {
        MulePostBishops x = new MulePostBishops();
        Check.same("day()", 0, x.day());
        Check.same("month()", 0, x.month());
        x.advance(29);
        Check.same("month() on day 29", 0, x.month());
        x.advance(1);
        Check.same("day()", 30, x.day());
        Check.same("month() on day 30", 1, x.month());
        Games.passUntil(x, 359);
        Check.same("month() on day 359", 11, x.month());
        x.advance(1);
        Check.same("month() on day 360", 0, x.month());
        Games.passUntil(x, 9999);
        Check.same("day()", 9999, x.day());
        // 9999 / 30 = 333 = 27 * 12 + 9
        Check.same("month() on day 9999", 9, x.month());
    }

    private static void promise12BishopOwner() {
        MulePostBishops x = new MulePostBishops();
        Check.same("bishopOwner(0, 1)", 0, x.bishopOwner(0, 1));
        Check.same("bishopOwner(1, 6)", 0, x.bishopOwner(1, 6));
        Check.same("bishopOwner(0, 31)", 1, x.bishopOwner(0, 31));
        Check.same("bishopOwner(1, 29)", 1, x.bishopOwner(1, 29));
        Check.same("bishopOwner(0, 0)", NONE, x.bishopOwner(0, 0));
        Check.same("bishopOwner(1, 35)", NONE, x.bishopOwner(1, 35));
        x.move(0, 4, 24, 0);
        Check.same("own board", "-10", "" + x.bishopOwner(0, 4) + x.bishopOwner(0, 24));
        Check.same("other board", "0-1", "" + x.bishopOwner(1, 4) + x.bishopOwner(1, 24));
        Check.noSuchThing("player 2", () -> x.bishopOwner(2, 0));
        Check.noSuchThing("player -1", () -> x.bishopOwner(-1, 0));
        Check.noSuchThing("square -1", () -> x.bishopOwner(0, -1));
        Check.noSuchThing("square 36", () -> x.bishopOwner(0, 36));
        Check.noSuchThing("square 63", () -> x.bishopOwner(0, 63));
        MulePostBishops y = Check.start(Games.TWO_WALKERS);
        Check.same("square 63 of 8", NONE, y.bishopOwner(1, 63));
        Check.noSuchThing("square 64", () -> y.bishopOwner(1, 64));
    }

    private static void promise13BishopCount() {
        MulePostBishops x = Check.start("game 4 9;bishop 0 0 0;bishop 0 0 1;bishop 1 2 2;pass 1 1 1;");
        Check.same("counts", "21", "" + x.bishopCount(0, 0) + x.bishopCount(1, 1));
        x.move(0, 0, 10, 0);
        Check.same("after a capture", "2021", "" + x.bishopCount(0, 0) + x.bishopCount(0, 1) + x.bishopCount(1, 0) + x.bishopCount(1, 1));
        x.advance(2);
        Check.same("after the arrival", "20", "" + x.bishopCount(1, 0) + x.bishopCount(1, 1));
        Check.noSuchThing("player 2", () -> x.bishopCount(2, 0));
        Check.noSuchThing("player -1", () -> x.bishopCount(-1, 0));
        Check.noSuchThing("owner 2", () -> x.bishopCount(0, 2));
        Check.noSuchThing("owner -1", () -> x.bishopCount(0, -1));
    }

    private static void promise14MoveCount() {
        MulePostBishops x = Games.overtaking();
        Check.same("moveCount(0)", 1, x.moveCount(0));
        Check.same("moveCount(1)", 4, x.moveCount(1));
        x.advance(8);
        Check.same("moveCount(0)", 4, x.moveCount(0));
        Check.noSuchThing("player 2", () -> x.moveCount(2));
        Check.noSuchThing("player -1", () -> x.moveCount(-1));
    }

    private static void promise15IsTurn() {
        MulePostBishops x = Check.start(Games.TWO_WALKERS);
        Check.same("at first", "truefalse", "" + x.isTurn(0) + x.isTurn(1));
        x.move(0, 0, 9, 1);
        Check.same("while the letter travels", "falsefalse", "" + x.isTurn(0) + x.isTurn(1));
        x.advance(2);
        Check.same("when it has arrived", "falsetrue", "" + x.isTurn(0) + x.isTurn(1));
        MulePostBishops y = Check.start("game 4 1;bishop 0 0 0;bishop 1 0 3;pass 1 1 1;");
        y.move(0, 0, 5, 0);
        y.advance(2);
        Check.same("when the game is over", "falsefalse", "" + y.isTurn(0) + y.isTurn(1));
        Check.noSuchThing("player 2", () -> x.isTurn(2));
        Check.noSuchThing("player -1", () -> x.isTurn(-1));
    }

    private static void promise16And17OverByCapture() {
        MulePostBishops x = Check.start("game 4 9;bishop 0 0 0;bishop 1 3 3;pass 1 1 1;");
        Check.same("at first", "falsefalse", "" + x.isOver(0) + x.isOver(1));
        x.move(0, 0, 15, 0);
        Check.same("after the move", "truefalse", "" + x.isOver(0) + x.isOver(1));
        Check.same("winners", "0-1", "" + x.winner(0) + x.winner(1));
        x.advance(2);
        Check.same("after the letter", "truetrue", "" + x.isOver(0) + x.isOver(1));
        Check.same("winners", "00", "" + x.winner(0) + x.winner(1));
        Check.noSuchThing("isOver(2)", () -> x.isOver(2));
        Check.noSuchThing("isOver(-1)", () -> x.isOver(-1));
        Check.noSuchThing("winner(2)", () -> x.winner(2));
        Check.noSuchThing("winner(-1)", () -> x.winner(-1));
        MulePostBishops y = Check.start("game 4 9;bishop 0 0 1;bishop 1 3 3;pass 1 1 1;");
        y.move(0, 1, 6, 0);
        y.advance(2);
        y.move(1, 15, 5, 0);
        y.advance(2);
        Check.same("a move without capture", NONE, y.winner(0));
    }

    private static void promise16And17OverByLimit() {
        MulePostBishops x = Check.start("game 4 2;bishop 0 0 0;bishop 0 0 1;bishop 1 3 3;bishop 1 0 3;pass 1 1 1;");
        x.move(0, 0, 5, 0);
        x.advance(2);
        Check.same("before the limit", "falsefalse", "" + x.isOver(0) + x.isOver(1));
        x.move(1, 15, 5, 0);
        Check.same("at the limit", "falsetrue", "" + x.isOver(0) + x.isOver(1));
        Check.same("winner(1)", 1, x.winner(1));
        Check.same("winner(0)", NONE, x.winner(0));
        x.advance(2);
        Check.same("winner(0)", 1, x.winner(0));
        MulePostBishops y = Check.start("game 4 1;bishop 0 0 0;bishop 1 3 3;pass 1 1 1;");
        y.move(0, 0, 5, 0);
        Check.same("over and equal", "true-1", "" + y.isOver(0) + y.winner(0));
    }

    private static void promise16And17WithoutBishops() {
        MulePostBishops x = Check.start("game 4 9;bishop 1 3 3;pass 1 1 1;");
        Check.same("no bishop of 0", "truetrue11", "" + x.isOver(0) + x.isOver(1) + x.winner(0) + x.winner(1));
        Check.same("no turn", "falsefalse", "" + x.isTurn(0) + x.isTurn(1));
        MulePostBishops y = Check.start("game 4 9;bishop 0 3 3;pass 1 1 1;");
        Check.same("no bishop of 1", "true0", "" + y.isOver(0) + y.winner(0));
        MulePostBishops z = Check.start("game 4 9;pass 1 1 1;");
        Check.same("no bishop", "true-1", "" + z.isOver(0) + z.winner(1));
    }

    private static void promise18CanMove() {
        // 20 . . b . .      white on 12, 18 and 3; black on 22 and 0
        MulePostBishops x = Check.start("game 5 9;bishop 0 2 2;bishop 0 3 3;bishop 0 0 3;bishop 1 4 2;bishop 1 0 0;pass 1 1 1;");
        Check.same("one step", true, x.canMove(0, 12, 16));
        Check.same("two steps", true, x.canMove(0, 12, 20));
        Check.same("a capture", true, x.canMove(0, 12, 0));
        Check.same("an own bishop", false, x.canMove(0, 12, 18));
        Check.same("beyond an own bishop", false, x.canMove(0, 12, 24));
        Check.same("beyond a foreign bishop", false, x.canMove(0, 0, 18));
        Check.same("the other's capture", true, x.canMove(1, 0, 12));
        Check.same("a row", false, x.canMove(0, 12, 14));
        Check.same("a column", false, x.canMove(0, 12, 2));
        Check.same("the same square", false, x.canMove(0, 12, 12));
        Check.same("no diagonal", false, x.canMove(0, 12, 19));
        Check.same("round the edge", false, x.canMove(0, 3, 5));
        Check.same("an empty square", false, x.canMove(0, 5, 11));
        Check.same("whoever's turn", true, x.canMove(1, 22, 16));
        Check.noSuchThing("player 2", () -> x.canMove(2, 0, 0));
        Check.noSuchThing("player -1", () -> x.canMove(-1, 0, 0));
        Check.noSuchThing("from 25", () -> x.canMove(0, 25, 0));
        Check.noSuchThing("from -1", () -> x.canMove(0, -1, 0));
        Check.noSuchThing("to 25", () -> x.canMove(0, 12, 25));
        Check.noSuchThing("to -1", () -> x.canMove(0, 12, -1));
        MulePostBishops y = Check.start("game 4 9;bishop 1 3 3;pass 1 1 1;");
        Check.same("when the game is over", true, y.canMove(0, 15, 0));
    }

    private static void promise19Mobility() {
        MulePostBishops x = Check.start("game 5 9;bishop 0 2 2;bishop 1 0 0;bishop 0 3 3;bishop 1 1 2;pass 1 1 1;");
        // 12: 6 and 0 (capture), 8, 4, 16, 20 and none over 18; 18: 24, 14, 22
        Check.same("mobility(0, 0)", 9, x.mobility(0, 0));
        // 0: 6, 12 (capture); 7: 1, 3, 11, 15, 13, 19
        Check.same("mobility(0, 1)", 8, x.mobility(0, 1));
        x.move(0, 12, 0, 0);
        Check.same("on the other board", 9, x.mobility(1, 0));
        // 0: 6, 12 and none over 18; 18: 24, 14, 22, 12, 6
        Check.same("on the own board", 7, x.mobility(0, 0));
        Check.same("mobility(0, 1)", 6, x.mobility(0, 1));
        Check.noSuchThing("player 2", () -> x.mobility(2, 0));
        Check.noSuchThing("player -1", () -> x.mobility(-1, 0));
        Check.noSuchThing("owner 2", () -> x.mobility(0, 2));
        Check.noSuchThing("owner -1", () -> x.mobility(0, -1));
        MulePostBishops y = Check.start("game 4 9;pass 1 1 1;");
        Check.same("no bishop", 0, y.mobility(0, 1));
    }

    private static void promises20And21Moves() {
        MulePostBishops x = Games.overtaking();
        Check.same("move 1", "0-9", x.movedFrom(0, 1) + "-" + x.movedTo(0, 1));
        Check.same("move 3", "9-18", x.movedFrom(1, 3) + "-" + x.movedTo(1, 3));
        Check.same("move 4", "49-42", x.movedFrom(1, 4) + "-" + x.movedTo(1, 4));
        int[] absent = {0, -1, 2, 4, 60, 61, Integer.MAX_VALUE, Integer.MIN_VALUE};
        for (int number : absent) {
            Check.fails("movedFrom(0, " + number + ")", NoSuchElementException.class, () -> x.movedFrom(0, number));
            Check.fails("movedTo(0, " + number + ")", NoSuchElementException.class, () -> x.movedTo(0, number));
        }
        Check.fails("movedFrom(1, 5)", NoSuchElementException.class, () -> x.movedFrom(1, 5));
        Check.noSuchThing("movedFrom(2, 1)", () -> x.movedFrom(2, 1));
        Check.noSuchThing("movedFrom(-1, 99)", () -> x.movedFrom(-1, 99));
        Check.noSuchThing("movedTo(2, 99)", () -> x.movedTo(2, 99));
        Check.noSuchThing("movedTo(-1, 1)", () -> x.movedTo(-1, 1));
    }

    private static void promise22StoredMoves() {
        MulePostBishops x = Games.overtaking();
        Check.same("storedMoves", "10", "" + x.storedMoves(0) + x.storedMoves(1));
        x.resend(3, 1);
        x.advance(2);
        Check.same("a duplicate is not stored", 1, x.storedMoves(0));
        x.advance(6);
        Check.same("storedMoves(0)", 0, x.storedMoves(0));
        Check.noSuchThing("player 2", () -> x.storedMoves(2));
        Check.noSuchThing("player -1", () -> x.storedMoves(-1));
    }

    private static void promise23BoardsEqual() {
        MulePostBishops x = Games.overtaking();
        Check.same("while letters travel", false, x.areBoardsEqual());
        x.advance(7);
        Check.same("on day 11", false, x.areBoardsEqual());
        x.advance(1);
        Check.same("on day 12", true, x.areBoardsEqual());
        // the same bishops after one move there and one back, but not as many moves
        MulePostBishops y = Check.start("game 4 9;bishop 0 0 0;bishop 1 0 3;pass 1 1 1;");
        y.move(0, 0, 5, 0);
        y.advance(2);
        y.move(1, 3, 6, 0);
        y.advance(2);
        Check.same("after two moves", true, y.areBoardsEqual());
        y.move(0, 5, 0, 0);
        Check.same("after three", false, y.areBoardsEqual());
    }
}
