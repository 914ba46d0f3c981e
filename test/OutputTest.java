/** Promises 52 to 54: the output. */
public final class OutputTest {
    private static final int NONE = MulePostBishops.NONE;

    public static void main(String[] args) {
        promise52WriteBoard();
        promise53WriteMoves();
        promise53Longest();
        promise54OutputByte();
        Check.end();
    }

    private static void promise52WriteBoard() {
        MulePostBishops x = new MulePostBishops();
        Check.same("writeBoard(0)", 41, x.writeBoard(0));
        x.move(0, 4, 24, 0);
        Check.same("board of 0", ".b..b./w....b/....../....../w...../.w....", Check.board(x, 0));
        Check.same("board of 1", ".b..b./.....b/....../....../w...../.w..w.", Check.board(x, 1));
        Check.same("writeBoard of 4", 19, Check.start("game 4 1;pass 1 1 1;").writeBoard(1));
        Check.same("writeBoard of 8", 71, Check.start("game 8 1;pass 1 1 1;").writeBoard(1));
        Check.noSuchThing("player 2", () -> x.writeBoard(2));
        Check.noSuchThing("player -1", () -> x.writeBoard(-1));
        Check.same("the output stays", (int) '.', x.outputByte(0));
        Check.same("no change", 1, x.undoCount());
    }

    private static void promise53WriteMoves() {
        MulePostBishops x = Games.overtaking();
        x.writeBoard(0);
        Check.same("moves of 0", "0-9", Check.moves(x, 0));
        Check.same("moves of 1", "0-9 56-49 9-18 49-42", Check.moves(x, 1));
        Check.same("no move", 0, new MulePostBishops().writeMoves(0));
        MulePostBishops y = Check.start("game 4 9;bishop 0 0 0;bishop 0 0 1;bishop 1 2 2;bishop 1 2 3;pass 1 1 1;");
        y.move(0, 0, 10, 0);
        y.advance(2);
        y.move(1, 11, 6, 0);
        y.advance(2);
        y.move(0, 1, 6, 0);
        Check.same("captures", "0x10 11-6 1x6", Check.moves(y, 0));
        Check.noSuchThing("player 2", () -> x.writeMoves(2));
        Check.noSuchThing("player -1", () -> x.writeMoves(-1));
    }

    private static void promise53Longest() {
        MulePostBishops x = Check.start("game 8 60;bishop 0 7 7;bishop 1 7 0;pass 1 9 9;");
        StringBuilder due = new StringBuilder();
        for (int i = 0; i < 30; i++) {
            boolean there = i % 2 == 0;
            x.move(0, there ? 63 : 54, there ? 54 : 63, 0);
            x.advance(2);
            x.move(1, there ? 56 : 49, there ? 49 : 56, 0);
            x.advance(2);
            due.append(there ? " 63-54 56-49" : " 54-63 49-56");
        }
        Check.same("sixty moves", due.substring(1), Check.moves(x, 0));
        Check.same("sixty moves", 359, x.writeMoves(1));
        Check.same("over", "truetrue", "" + x.isOver(0) + x.isOver(1));
    }

    private static void promise54OutputByte() {
        MulePostBishops x = new MulePostBishops();
        Check.same("no output", NONE, x.outputByte(0));
        x.writeBoard(0);
        Check.same("outputByte(1)", 98, x.outputByte(1));
        Check.same("outputByte(6)", 47, x.outputByte(6));
        Check.same("outputByte(36)", 119, x.outputByte(36));
        Check.same("outputByte(40)", 46, x.outputByte(40));
        int[] absent = {41, 399, 400, -1, Integer.MAX_VALUE, Integer.MIN_VALUE};
        for (int index : absent) {
            Check.same("outputByte(" + index + ")", NONE, x.outputByte(index));
        }
        x.move(0, 4, 24, 0);
        x.writeMoves(0);
        Check.same("replaced", "4-24", "" + (char) x.outputByte(0) + (char) x.outputByte(1) + (char) x.outputByte(2)
                + (char) x.outputByte(3));
        Check.same("replaced", NONE, x.outputByte(4));
        x.undo();
        Check.same("after undo", (int) '4', x.outputByte(3));
        x.writeMoves(0);
        Check.same("an empty output", NONE, x.outputByte(0));
    }
}
