import java.util.NoSuchElementException;

/** The sentences about boards and moves that name no boundary, each with a test of its own (promises 8 to 24). */
public final class GameSentenceTest {
    private static final int NONE = MulePostBishops.NONE;
    /** Move 1 captures, and with move 3 the limit is reached: two bishops of player 0 against one of player 1. */
    private static final String THREE_MOVES = "game 8 3;bishop 0 0 0;bishop 0 0 3;bishop 1 2 2;bishop 1 7 0;pass 1 9 9;";

    public static void main(String[] args) {
        ownBoards();
        rowsAndColumns();
        setups();
        daysAndMonths();
        bishops();
        moveCounts();
        orderOfMoves();
        turns();
        endOfTheGame();
        waysAtAnyTime();
        pairsOfSquares();
        startAndEndSquares();
        storedMoves();
        boardsThatAgree();
        Check.end();
    }

    private static void ownBoards() {
        String setup = "game 5 9;bishop 0 0 0;bishop 0 0 4;bishop 1 4 0;bishop 1 4 4;pass 1 1 1;";
        String first = "b...b/...../...../...../w...w";
        String second = "b...b/...../...../.w.../....w";
        String third = "b..../...b./...../.w.../....w";
        Check.about("Two players keep one copy of the board each.", "Each player has an own board.");
        MulePostBishops x = Check.start(setup);
        Check.same("at first", first + " " + first, Check.board(x, 0) + " " + Check.board(x, 1));
        x.move(0, 0, 6, 0);
        Check.same("after move 1", second + " " + first, Check.board(x, 0) + " " + Check.board(x, 1));
        x.advance(2);
        Check.same("after its arrival", second + " " + second, Check.board(x, 0) + " " + Check.board(x, 1));
        MulePostBishops y = Check.start(setup);
        y.move(0, 0, 6, 0);
        y.advance(2);
        y.move(1, 24, 18, 0);
        Check.same("after move 2", second + " " + third, Check.board(y, 0) + " " + Check.board(y, 1));
        y.advance(2);
        Check.same("after its arrival", third + " " + third, Check.board(y, 0) + " " + Check.board(y, 1));
    }

    private static void rowsAndColumns() {
        Check.about("The board has `size` rows and columns, numbered from 0.");
        for (int size = 4; size <= 8; size++) {
            for (int square = 0; square < size * size; square++) {
                int row = square / size;
                int column = square % size;
                MulePostBishops x = Check.start("game " + size + " 9;bishop 1 " + row + " " + column + ";pass 1 1 1;");
                Check.same("the owner on " + square, 1, x.bishopOwner(0, square));
                x.writeBoard(1);
                Check.same("the bishop in the output", (int) 'b', x.outputByte((size - 1 - row) * (size + 1) + column));
            }
        }
    }

    private static void setups() {
        Check.about("Returns the number of rows and columns. @return 4 to 8");
        MulePostBishops x = new MulePostBishops();
        for (int size = 8; size >= 4; size--) {
            Check.load(x, "game " + size + " 9;pass 1 1 1;");
            Check.same("boardSize()", size, x.boardSize());
        }
        Check.about("Returns the move limit. @return 1 to 60");
        for (int limit = 1; limit <= 60; limit++) {
            Check.load(x, "game 4 " + limit + ";pass 1 1 1;");
            Check.same("moveLimit()", limit, x.moveLimit());
        }
        Check.about("Returns the number of passes. @return 1 to 4");
        for (int count = 4; count >= 1; count--) {
            Check.load(x, "game 4 9;" + "pass 1 1 1;".repeat(count));
            Check.same("passCount()", count, x.passCount());
        }
    }

    private static void daysAndMonths() {
        Check.about("The day is 0 at first.", "1. The day increases by 1.", "Returns the present day. @return the day, from 0");
        MulePostBishops x = new MulePostBishops();
        for (int day = 0; day <= 95; day++) {
            Check.same("day()", day, x.day());
            Check.same("month() on day " + day, day / 30, x.month());
            x.advance(1);
        }
        Check.about("Returns the month of the present day. @return 0 to 11");
        MulePostBishops y = new MulePostBishops();
        for (int months = 1; months <= 25; months++) {
            y.advance(29);
            Check.same("on the last day", (months - 1) % 12, y.month());
            y.advance(1);
            Check.same("on the first day", months % 12, y.month());
        }
    }

    private static void bishops() {
        int[] squares = {0, 3, 9, 18, 56};
        int[][] due = {{NONE, 0, NONE, 0, 1}, {0, 0, NONE, 1, 1}};
        MulePostBishops x = Check.start(THREE_MOVES);
        x.move(0, 0, 18, 0);
        Check.about("Returns the owner of the bishop on a square of a player's board.",
                "Returns the owner of the bishop, NONE if the square is empty.");
        for (int p = 0; p < 2; p++) {
            for (int i = 0; i < squares.length; i++) {
                Check.same("bishopOwner(" + p + ", " + squares[i] + ")", due[p][i], x.bishopOwner(p, squares[i]));
            }
        }
        Check.about("Counts bishops on a player's board.", "Returns the number of bishops.");
        Check.same("on the board with the capture", "2 1", x.bishopCount(0, 0) + " " + x.bishopCount(0, 1));
        Check.same("on the other board", "2 2", x.bishopCount(1, 0) + " " + x.bishopCount(1, 1));
        x.advance(2);
        Check.same("after the arrival", "2 1", x.bishopCount(1, 0) + " " + x.bishopCount(1, 1));
    }

    private static void counts(MulePostBishops x, int count0, int count1) {
        for (int p = 0; p < 2; p++) {
            int due = p == 0 ? count0 : count1;
            String text = Check.moves(x, p);
            Check.same("the moves that board " + p + " tells", due, text.isEmpty() ? 0 : text.split(" ").length);
            Check.same("moveCount(" + p + ")", due, x.moveCount(p));
        }
    }

    private static void moveCounts() {
        Check.about("The move count of a board is the number of moves that were applied to it.",
                "Returns the move count of a player's board.", "Returns the number of moves that were applied to it.");
        MulePostBishops x = Check.start(Games.TWO_WALKERS);
        counts(x, 0, 0);
        x.move(0, 0, 9, 1);
        counts(x, 1, 0);
        x.promise(0, 1, 56, 49, 9, 18);
        counts(x, 1, 0);
        x.advance(2);
        counts(x, 1, 1);
        // with the promised reply
        x.move(1, 56, 49, 0);
        counts(x, 1, 3);
        x.move(1, 49, 42, 1);
        counts(x, 1, 4);
        // move 4 is stored, and does not count
        x.advance(9);
        counts(x, 1, 4);
        x.advance(1);
        counts(x, 4, 4);
        x.undo();
        counts(x, 1, 4);
    }

    private static void orderOfMoves() {
        Check.about("Moves are applied to a board in the order of their numbers.");
        MulePostBishops x = Games.overtaking();
        for (int day = 4; day <= 13; day++) {
            // move 4 has been there since day 4, and the promised move 3 is known
            Check.same("the moves of board 0 on day " + day, day < 12 ? "0-9" : "0-9 56-49 9-18 49-42", Check.moves(x, 0));
            x.advance(1);
        }
    }

    private static void turns() {
        Check.about("Tells whether it is a player's turn.", "Returns true if it is this player's turn on the own board.");
        MulePostBishops x = Check.start(Games.TWO_WALKERS);
        Check.same("player 0 at first, and player 1", "true false", x.isTurn(0) + " " + x.isTurn(1));
        x.move(0, 0, 9, 0);
        // on player 0's board it is the turn of player 1, who does not know of it
        Check.same("after the move", "false false", x.isTurn(0) + " " + x.isTurn(1));
        Check.wrongState("move 2 before the letter arrives", () -> x.move(1, 56, 49, 0));
        x.advance(10);
        Check.same("after the arrival", "false true", x.isTurn(0) + " " + x.isTurn(1));
        // move 4 makes it player 0's turn on the board of player 1, while player 0 still waits for move 2
        MulePostBishops y = Games.overtaking();
        Check.same("while move 2 is on its way", "false false", y.isTurn(0) + " " + y.isTurn(1));
        y.advance(8);
        Check.same("when it has come", "true false", y.isTurn(0) + " " + y.isTurn(1));
    }

    private static String ends(MulePostBishops x) {
        return x.isOver(0) + " " + x.winner(0) + " " + x.isOver(1) + " " + x.winner(1);
    }

    /** Both boards until move 3, the last one, is made on the board of player 0. */
    private static MulePostBishops threeMoves() {
        MulePostBishops x = Check.start(THREE_MOVES);
        x.move(0, 0, 18, 0);
        x.advance(2);
        x.move(1, 56, 49, 0);
        x.advance(2);
        x.move(0, 3, 10, 0);
        return x;
    }

    private static void endOfTheGame() {
        Check.about("Tells whether the game is over on a player's board.", "Returns true if it is over.",
                "Returns the winner on a player's board: the player with more bishops on it when the game is over on it.");
        MulePostBishops x = Check.start(THREE_MOVES);
        Check.same("two bishops each", "false -1 false -1", ends(x));
        x.move(0, 0, 18, 0);
        x.advance(2);
        Check.same("two bishops against one, but not over", "false -1 false -1", ends(x));
        MulePostBishops y = threeMoves();
        Check.same("over on the board of player 0", "true 0 false -1", ends(y));
        y.advance(2);
        Check.same("over on both boards", "true 0 true 0", ends(y));
    }

    private static void waysAtAnyTime() {
        Check.about("Tells whether a bishop could move on a player's board, whoever's turn it is and whether the game is over "
                + "or not.",
                "Returns true if there is a bishop on from that can move to to.");
        MulePostBishops x = Check.start(THREE_MOVES);
        for (int p = 0; p < 2; p++) {
            Check.same("at the turn of player 0", "true true false", x.canMove(p, 3, 10) + " " + x.canMove(p, 56, 49) + " "
                    + x.canMove(p, 10, 3));
        }
        MulePostBishops y = threeMoves();
        Check.same("when it is over", "false true true", y.canMove(0, 3, 10) + " " + y.canMove(0, 49, 56) + " "
                + y.canMove(0, 10, 3));
        Check.same("when it is nobody's turn", "true true false", y.canMove(1, 3, 10) + " " + y.canMove(1, 49, 56) + " "
                + y.canMove(1, 10, 3));
    }

    private static MulePostBishops afterACapture(int days) {
        MulePostBishops x = Check.start("game 4 9;bishop 0 0 0;bishop 0 1 3;bishop 1 2 2;bishop 1 3 1;bishop 1 3 3;pass 1 1 1;");
        x.move(0, 0, 10, 0);
        if (days > 0) {
            x.advance(days);
        }
        return x;
    }

    private static void pairsOfSquares() {
        Check.about("Counts the moves that the bishops of one owner could make on a player's board, whoever's turn it is.",
                "Returns the number of pairs of a start square and an end square.");
        for (int days = 0; days <= 2; days += 2) {
            for (int p = 0; p < 2; p++) {
                MulePostBishops x = afterACapture(days);
                int[] pairs = new int[2];
                for (int i = 0; i < 256; i++) {
                    if (x.canMove(p, i / 16, i % 16)) {
                        pairs[x.bishopOwner(p, i / 16)]++;
                    }
                }
                Check.same("mobility(" + p + ", 0)", pairs[0], x.mobility(p, 0));
                Check.same("mobility(" + p + ", 1)", pairs[1], x.mobility(p, 1));
            }
        }
        // white on 10: 15 and 13 (captures), 5, 0 and none over 7; white on 7: 2; black on 13: 8, 10; black on 15: 10
        MulePostBishops y = afterACapture(0);
        Check.same("mobility on board 0", "5 3", y.mobility(0, 0) + " " + y.mobility(0, 1));
    }

    private static void startAndEndSquares() {
        Check.about("Returns the start square of a move that was applied to a player's board.",
                "Returns the end square of a move that was applied to a player's board.", "Returns the square.");
        int[][] due = {{0, 9}, {56, 49}, {9, 18}, {49, 42}};
        MulePostBishops x = Games.overtaking();
        for (int number = 1; number <= 4; number++) {
            Check.same("movedFrom(1, " + number + ")", due[number - 1][0], x.movedFrom(1, number));
            Check.same("movedTo(1, " + number + ")", due[number - 1][1], x.movedTo(1, number));
        }
        Check.same("move 1 on board 0", "0 9", x.movedFrom(0, 1) + " " + x.movedTo(0, 1));
        Check.fails("move 4, stored on board 0", NoSuchElementException.class, () -> x.movedFrom(0, 4));
        Check.fails("move 4, stored on board 0", NoSuchElementException.class, () -> x.movedTo(0, 4));
        x.advance(8);
        for (int number = 1; number <= 4; number++) {
            Check.same("movedFrom(0, " + number + ")", due[number - 1][0], x.movedFrom(0, number));
            Check.same("movedTo(0, " + number + ")", due[number - 1][1], x.movedTo(0, number));
        }
    }

    private static void storedMoves() {
        Check.about("Returns the number of stored moves.");
        MulePostBishops x = Games.overtaking();
        x.undo();
        Check.same("before move 4 arrives", "0 0", x.storedMoves(0) + " " + x.storedMoves(1));
        x.advance(2);
        for (int day = 4; day <= 13; day++) {
            Check.same("on day " + day, (day < 12 ? 1 : 0) + " 0", x.storedMoves(0) + " " + x.storedMoves(1));
            x.advance(1);
        }
    }

    private static void boardsThatAgree() {
        Check.about("Tells whether both boards agree.");
        MulePostBishops x = Check.start("game 4 9;bishop 0 0 0;bishop 1 3 0;pass 1 9 9;");
        boolean[] due = {true, false, false, true, false, false, true};
        for (int i = 0; i < due.length; i++) {
            Check.same("areBoardsEqual() at step " + i, due[i], x.areBoardsEqual());
            Check.same("the boards at step " + i, due[i], Check.board(x, 0).equals(Check.board(x, 1)));
            if (i == 0) {
                x.move(0, 0, 5, 0);
            } else if (i == 3) {
                x.move(1, 12, 9, 0);
            } else {
                x.advance(1);
            }
        }
    }
}
