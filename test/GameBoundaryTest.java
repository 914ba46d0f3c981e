import java.util.NoSuchElementException;

/** Each sentence about boards and moves that names a boundary, with a test of its own (promises 8 to 23). */
public final class GameBoundaryTest {
    private static final int NONE = MulePostBishops.NONE;

    public static void main(String[] args) {
        squaresOfEverySize();
        everyWayOnAnEmptyBoard();
        waysThatAreBlocked();
        longestMoves();
        captures();
        emptyAndFullBoard();
        numbersOfMoves();
        limitOfOneMove();
        limitOfSixtyMoves();
        lastBishop();
        noMoveWhenItIsOver();
        winners();
        turns();
        appliedMoves();
        storedMoves();
        equalBoards();
        Check.end();
    }

    private static void squaresOfEverySize() {
        for (int size = 4; size <= 8; size++) {
            int last = size * size - 1;
            int edge = size - 1;
            MulePostBishops x = Check.start("game " + size + " 60;bishop 0 0 0;bishop 0 0 " + edge + ";bishop 1 " + edge
                    + " 0;bishop 1 " + edge + " " + edge + ";pass 1 1 1;");
            Check.about("Returns the number of rows and columns. @return 4 to 8");
            Check.same("boardSize()", size, x.boardSize());
            Check.about("A square is identified by the number row * size + column.");
            for (int p = 0; p < 2; p++) {
                int player = p;
                for (int square = 0; square <= last; square++) {
                    int due = square == 0 || square == edge ? 0 : square == last - edge || square == last ? 1 : NONE;
                    Check.same("bishopOwner(" + p + ", " + square + ") of " + size, due, x.bishopOwner(p, square));
                }
                Check.noSuchThing("the first square beyond the board", () -> x.bishopOwner(player, last + 1));
                Check.noSuchThing("the square before the board", () -> x.bishopOwner(player, -1));
                Check.same("a way to the last square", true, x.canMove(p, 0, last));
                Check.noSuchThing("a way beyond the last square", () -> x.canMove(player, 0, last + 1));
                Check.noSuchThing("a way from beyond", () -> x.canMove(player, last + 1, 0));
            }
            Check.about("The row with the highest number comes first. A slash (byte 47) separates two rows.");
            String middle = ".".repeat(size - 2);
            Check.same("the board", "b" + middle + "b" + ("/" + ".".repeat(size)).repeat(size - 2) + "/w" + middle + "w",
                    Check.board(x, 0));
            Check.same("the length", size * size + size - 1, x.writeBoard(1));
        }
    }

    private static void everyWayOnAnEmptyBoard() {
        Check.about("A bishop moves along a diagonal over any number of empty squares.");
        for (int size = 4; size <= 8; size++) {
            for (int from = 0; from < size * size; from++) {
                MulePostBishops x = Check.start("game " + size + " 9;bishop 1 " + from / size + " " + from % size + ";pass 1 1 1;");
                int ways = 0;
                for (int to = 0; to < size * size; to++) {
                    int rows = Math.abs(from / size - to / size);
                    boolean due = rows > 0 && rows == Math.abs(from % size - to % size);
                    ways += due ? 1 : 0;
                    Check.same("canMove(0, " + from + ", " + to + ") of " + size, due, x.canMove(0, from, to));
                }
                Check.same("mobility(1, 1)", ways, x.mobility(1, 1));
                Check.same("mobility(1, 0)", 0, x.mobility(1, 0));
            }
        }
    }

    private static void waysThatAreBlocked() {
        Check.about("It ends on an empty square, or on a square with a bishop of the other player.");
        int[] corners = {0, 7, 56, 63};
        int[] steps = {9, 7, -7, -9};
        for (int i = 0; i < 4; i++) {
            for (int blocker = 1; blocker <= 7; blocker++) {
                for (int owner = 0; owner < 2; owner++) {
                    int square = corners[i] + blocker * steps[i];
                    MulePostBishops x = Check.start("game 8 9;bishop 0 " + corners[i] / 8 + " " + corners[i] % 8 + ";bishop " + owner
                            + " " + square / 8 + " " + square % 8 + ";pass 1 1 1;");
                    for (int far = 0; far <= 7; far++) {
                        boolean due = far > 0 && (far < blocker || far == blocker && owner == 1);
                        Check.same("canMove over " + far + " squares with " + blocker + " of " + owner, due,
                                x.canMove(1, corners[i], corners[i] + far * steps[i]));
                    }
                }
            }
        }
    }

    private static void longestMoves() {
        Check.about("A bishop moves along a diagonal over any number of empty squares.");
        for (int size = 4; size <= 8; size++) {
            int edge = size - 1;
            int last = size * size - 1;
            int[] from = {0, edge, last - edge, last};
            for (int i = 0; i < 4; i++) {
                MulePostBishops x = Check.start("game " + size + " 9;bishop 0 " + from[i] / size + " " + from[i] % size
                        + ";bishop 1 1 0;pass 1 1 1;");
                Check.same("from corner to corner", 1, x.move(0, from[i], last - from[i], 0));
                Check.same("the corner", 0, x.bishopOwner(0, last - from[i]));
                Check.same("the other corner", NONE, x.bishopOwner(0, from[i]));
                Check.same("writeMoves(0)", from[i] + "-" + (last - from[i]), Check.moves(x, 0));
            }
        }
    }

    private static void captures() {
        Check.about("In the second case the bishop of the other player is captured and leaves the board.");
        MulePostBishops x = Check.start("game 8 9;bishop 0 0 0;bishop 1 7 7;bishop 1 7 0;pass 1 1 1;");
        x.move(0, 0, 63, 0);
        Check.same("bishops on the own board", "11", "" + x.bishopCount(0, 0) + x.bishopCount(0, 1));
        Check.same("bishops on the other board", "12", "" + x.bishopCount(1, 0) + x.bishopCount(1, 1));
        Check.same("the own board", "b......w" + "/........".repeat(7), Check.board(x, 0));
        Check.same("the other board", "b......b" + "/........".repeat(6) + "/w.......", Check.board(x, 1));
        Check.same("its moves", "0x63", Check.moves(x, 0));
        x.advance(2);
        Check.same("the other board", "b......w" + "/........".repeat(7), Check.board(x, 1));
    }

    private static void emptyAndFullBoard() {
        Check.about("At most one bishop stands on a square, and each bishop belongs to one player.");
        MulePostBishops x = Check.start("game 4 60;pass 1 1 1;");
        for (int p = 0; p < 2; p++) {
            Check.same("the empty board", "..../..../..../....", Check.board(x, p));
            Check.same("its bishops", "00", "" + x.bishopCount(p, 0) + x.bishopCount(p, 1));
            Check.same("its ways", "00", "" + x.mobility(p, 0) + x.mobility(p, 1));
            Check.same("over", "truefalse-1", "" + x.isOver(p) + x.isTurn(p) + x.winner(p));
            Check.same("reasonToWait", MulePostBishops.GAME_OVER, x.reasonToWait(p));
        }
        Check.same("equal", true, x.areBoardsEqual());
        StringBuilder text = new StringBuilder("game 4 60;");
        for (int i = 0; i < 16; i++) {
            text.append("bishop ").append(i / 8).append(' ').append(i / 4).append(' ').append(i % 4).append(';');
        }
        MulePostBishops y = Check.start(text + "pass 1 1 1;");
        for (int p = 0; p < 2; p++) {
            Check.same("the full board", "bbbb/bbbb/wwww/wwww", Check.board(y, p));
            Check.same("its bishops", "88", "" + y.bishopCount(p, 0) + y.bishopCount(p, 1));
            // only the captures between the two rows in the middle: 1 + 2 + 2 + 1 on each side
            Check.same("its ways", "66", "" + y.mobility(p, 0) + y.mobility(p, 1));
            Check.same("not over", "false-1", "" + y.isOver(p) + y.winner(p));
        }
        Check.same("a capture", 1, y.move(0, 4, 9, 0));
        Check.same("after it", "bbbb/bwbb/.www/wwww", Check.board(y, 0));
        Check.same("bishops", "87", "" + y.bishopCount(0, 0) + y.bishopCount(0, 1));
    }

    // ---- numbers, the end of the game

    /** Both players walk to and fro until the given number of moves is made and has arrived. */
    private static MulePostBishops walk(int limit, int moves) {
        MulePostBishops x = Check.start("game 8 " + limit + ";bishop 0 7 7;bishop 1 7 0;pass 1 9 9;");
        for (int i = 0; i < moves; i++) {
            boolean there = i / 2 % 2 == 0;
            int number = i % 2 == 0 ? x.move(0, there ? 63 : 54, there ? 54 : 63, 0)
                    : x.move(1, there ? 56 : 49, there ? 49 : 56, 0);
            Check.same("the number of the move", i + 1, number);
            x.advance(2);
        }
        return x;
    }

    private static void numbersOfMoves() {
        Check.about("Moves are numbered from 1. Player 0 makes the moves with odd numbers. Player 1 makes the moves with even numbers.");
        MulePostBishops x = walk(60, 2);
        Check.same("move 1", "63-54", x.movedFrom(1, 1) + "-" + x.movedTo(1, 1));
        Check.same("move 2", "56-49", x.movedFrom(0, 2) + "-" + x.movedTo(0, 2));
        Check.fails("move 0", NoSuchElementException.class, () -> x.movedFrom(0, 0));
        Check.fails("move 3", NoSuchElementException.class, () -> x.movedFrom(0, 3));
        Check.same("letterNumber", "12", "" + x.letterNumber(0) + x.letterNumber(1));
        Check.wrongState("player 1 at the odd number 3", () -> x.move(1, 49, 56, 0));
        Check.same("player 0 at the odd number 3", 3, x.move(0, 54, 63, 0));
        Check.wrongState("player 0 at the even number 4", () -> x.move(0, 63, 54, 0));
    }

    private static void limitOfOneMove() {
        Check.about("or if the move count equals the move limit.");
        MulePostBishops x = walk(1, 0);
        Check.same("moveLimit()", 1, x.moveLimit());
        Check.same("before the only move", "falsetrue", "" + x.isOver(0) + x.isTurn(0));
        x.move(0, 63, 54, 0);
        Check.same("over for player 0", "truefalse", "" + x.isOver(0) + x.isOver(1));
        Check.wrongState("a second move", () -> x.move(0, 54, 63, 0));
        x.advance(2);
        Check.same("over for both", "truetrue", "" + x.isOver(0) + x.isOver(1));
        Check.wrongState("a second move", () -> x.move(1, 56, 49, 0));
        MulePostBishops y = walk(2, 1);
        Check.same("one of two moves", "falsefalse", "" + y.isOver(0) + y.isOver(1));
        Check.same("the second move", 2, y.move(1, 56, 49, 0));
        Check.same("two of two moves", "falsetrue", "" + y.isOver(0) + y.isOver(1));
    }

    private static void limitOfSixtyMoves() {
        Check.about("or if the move count equals the move limit.");
        MulePostBishops x = walk(60, 59);
        Check.same("moveLimit()", 60, x.moveLimit());
        Check.same("59 moves", "5959falsefalsefalsetrue", "" + x.moveCount(0) + x.moveCount(1) + x.isOver(0) + x.isOver(1)
                + x.isTurn(0) + x.isTurn(1));
        Check.fails("movedTo(1, 60)", NoSuchElementException.class, () -> x.movedTo(1, 60));
        Check.same("move 60", 60, x.move(1, 49, 56, 0));
        x.advance(2);
        Check.same("60 moves", "6060truetruefalsefalse", "" + x.moveCount(0) + x.moveCount(1) + x.isOver(0) + x.isOver(1)
                + x.isTurn(0) + x.isTurn(1));
        Check.same("movedTo(0, 60)", 56, x.movedTo(0, 60));
        Check.fails("movedTo(0, 61)", NoSuchElementException.class, () -> x.movedTo(0, 61));
        Check.wrongState("move 61", () -> x.move(0, 63, 54, 0));
        Check.wrongState("promise 62", () -> x.promise(1, 0, 63, 54, 56, 49));
        Check.same("winner", NONE, x.winner(0));
        Check.same("the longest text", 359, x.writeMoves(0));
        Check.same("its last byte", (int) '6', x.outputByte(358));
        Check.same("no byte behind it", NONE, x.outputByte(359));
        MulePostBishops y = walk(59, 59);
        Check.same("59 of 59 moves", "truetrue", "" + y.isOver(0) + y.isOver(1));
    }

    private static void lastBishop() {
        Check.about("The game is over on a board if one player has no bishop on it,");
        MulePostBishops x = Check.start("game 8 60;bishop 0 0 0;bishop 1 2 2;bishop 1 4 4;pass 1 1 1;");
        x.move(0, 0, 18, 0);
        Check.same("one of two is left", "1falsefalse", "" + x.bishopCount(0, 1) + x.isOver(0) + x.isOver(1));
        x.advance(2);
        Check.same("the turn goes on", true, x.isTurn(1));
        x.move(1, 36, 45, 0);
        x.advance(2);
        x.move(0, 18, 45, 0);
        Check.same("none is left", "0truefalse", "" + x.bishopCount(0, 1) + x.isOver(0) + x.isOver(1));
        x.advance(2);
        Check.same("none is left", "0truetrue", "" + x.bishopCount(1, 1) + x.isOver(0) + x.isOver(1));
        MulePostBishops y = Check.start("game 8 60;bishop 0 0 0;bishop 1 7 0;bishop 1 0 2;pass 1 1 1;");
        y.move(0, 0, 9, 0);
        y.advance(2);
        y.move(1, 2, 9, 0);
        Check.same("the last one of player 0", "falsetrue", "" + y.isOver(0) + y.isOver(1));
        Check.same("the winner", 1, y.winner(1));
    }

    private static void noMoveWhenItIsOver() {
        Check.about("No move is applied to a board on which the game is over.");
        for (String bishop : new String[] {"bishop 0 0 0;", "bishop 1 7 7;", ""}) {
            MulePostBishops x = Check.start("game 8 60;" + bishop + "pass 1 1 1;");
            for (int player = 0; player < 2; player++) {
                int p = player;
                Check.wrongState("move", () -> x.move(p, p * 63, p * 54 + 9 - p * 9, 0));
                Check.wrongState("promise", () -> x.promise(p, 0, 63 - p * 63, 54 - p * 45, p * 63, 9 + p * 45));
                Check.same("a turn", false, x.isTurn(p));
                Check.same("a turn to come", NONE, x.daysUntilTurn(p));
                Check.same("reasonToWait", MulePostBishops.GAME_OVER, x.reasonToWait(p));
            }
        }
    }

    private static void winners() {
        Check.about("Returns the winner, NONE if the game is not over or both have equally many bishops.");
        for (int white = 0; white <= 3; white++) {
            for (int black = 0; black <= 3; black++) {
                StringBuilder text = new StringBuilder("game 8 1;");
                for (int i = 0; i < 3; i++) {
                    text.append(i < white ? "bishop 0 0 " + 2 * i + ";" : "").append(i < black ? "bishop 1 4 " + 2 * i + ";" : "");
                }
                MulePostBishops x = Check.start(text + "pass 1 1 1;");
                int due = white > black ? 0 : white < black ? 1 : NONE;
                boolean over = white == 0 || black == 0;
                Check.same("at first " + white + " to " + black, over ? due : NONE, x.winner(0));
                if (!over) {
                    x.move(0, 0, 9, 0);
                    Check.same("over with " + white + " to " + black, due, x.winner(0));
                    Check.same("not over on the other board", NONE, x.winner(1));
                    x.advance(2);
                    Check.same("over with " + white + " to " + black, due, x.winner(1));
                }
            }
        }
    }

    private static void turns() {
        Check.about("It is a player's turn if the game is not over on the player's board and the next move number of this board "
                + "(its move count plus 1) is one of this player's numbers.");
        MulePostBishops x = walk(60, 0);
        Check.same("number 1 on both boards", "truefalse", "" + x.isTurn(0) + x.isTurn(1));
        x.move(0, 63, 54, 0);
        Check.same("number 2 and 1", "falsefalse", "" + x.isTurn(0) + x.isTurn(1));
        x.advance(1);
        Check.same("the day before the arrival", "falsefalse", "" + x.isTurn(0) + x.isTurn(1));
        x.advance(1);
        Check.same("number 2 on both boards", "falsetrue", "" + x.isTurn(0) + x.isTurn(1));
        x.move(1, 56, 49, 0);
        Check.same("number 2 and 3", "falsefalse", "" + x.isTurn(0) + x.isTurn(1));
        x.advance(2);
        Check.same("number 3 on both boards", "truefalse", "" + x.isTurn(0) + x.isTurn(1));
    }

    private static void appliedMoves() {
        Check.about("Throws `NoSuchElementException` if no move with this number was applied to the board");
        MulePostBishops x = Games.overtaking();
        for (int number = -1; number <= 62; number++) {
            for (int p = 0; p < 2; p++) {
                int n = number;
                int player = p;
                if (number >= 1 && number <= x.moveCount(p)) {
                    Check.same("movedFrom(" + p + ", " + n + ")", new int[] {0, 56, 9, 49}[n - 1], x.movedFrom(p, n));
                    Check.same("movedTo(" + p + ", " + n + ")", new int[] {9, 49, 18, 42}[n - 1], x.movedTo(p, n));
                } else {
                    Check.fails("movedFrom(" + p + ", " + n + ")", NoSuchElementException.class, () -> x.movedFrom(player, n));
                    Check.fails("movedTo(" + p + ", " + n + ")", NoSuchElementException.class, () -> x.movedTo(player, n));
                }
            }
        }
        // an undone move is no applied one
        x.undo();
        x.undo();
        Check.fails("movedTo(1, 4)", NoSuchElementException.class, () -> x.movedTo(1, 4));
        Check.same("movedTo(1, 3)", 18, x.movedTo(1, 3));
    }

    private static void storedMoves() {
        Check.about("A stored move with the next move number is applied and is no longer stored.");
        MulePostBishops x = Games.overtaking();
        Check.same("move 4 is stored", "10", "" + x.storedMoves(0) + x.storedMoves(1));
        x.advance(7);
        Check.same("the day before move 2 arrives", "11", "" + x.storedMoves(0) + x.moveCount(0));
        x.advance(1);
        Check.same("when move 2 arrives", "04", "" + x.storedMoves(0) + x.moveCount(0));
        Check.about("Counts the moves that a player stores because an earlier move is still missing.");
        MulePostBishops y = walk(60, 0);
        Check.same("at first", "00", "" + y.storedMoves(0) + y.storedMoves(1));
        y.move(0, 63, 54, 0);
        y.advance(2);
        Check.same("a move that is applied at once", "00", "" + y.storedMoves(0) + y.storedMoves(1));
    }

    private static void equalBoards() {
        Check.about("Returns true if both have the same move count and the same bishops on all squares.");
        MulePostBishops x = walk(60, 0);
        Check.same("no move", true, x.areBoardsEqual());
        x.move(0, 63, 54, 0);
        Check.same("one move and none", false, x.areBoardsEqual());
        x.advance(2);
        Check.same("one move", true, x.areBoardsEqual());
        // four moves bring all bishops back, so the boards are the same but for the move count
        MulePostBishops y = Check.start("game 8 60;bishop 0 7 7;bishop 1 7 0;pass 9 9 9;pass 1 9 9;");
        y.promise(1, 1, 63, 54, 56, 49);
        y.move(0, 63, 54, 1);
        y.promise(0, 1, 56, 49, 54, 63);
        y.advance(2);
        Check.same("move counts", "33", "" + y.moveCount(0) + y.moveCount(1));
        Check.same("three moves", true, y.areBoardsEqual());
        y.move(1, 49, 56, 0);
        Check.same("move counts", "34", "" + y.moveCount(0) + y.moveCount(1));
        Check.same("three moves and four", false, y.areBoardsEqual());
        y.advance(10);
        Check.same("four moves", true, y.areBoardsEqual());
        Check.same("as at first", "b......w" + "/........".repeat(7), Check.board(y, 0));
    }
}
