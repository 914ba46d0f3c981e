/** Each sentence about changes, output, undo and slots that names a boundary, with a test of its own (46 to 58). */
public final class ChangeBoundaryTest {
    private static final int NONE = MulePostBishops.NONE;

    private interface Call {
        Object on(MulePostBishops x);
    }

    public static void main(String[] args) {
        advancedDays();
        lastDay();
        stablesOfNineMules();
        depthsOfSnow();
        lastPromise();
        promiseBeforeTheEnd();
        eightChanges();
        changesAreRecorded();
        noChanges();
        scriptIsOneChange();
        refusedChangesKeepTheHistory();
        historyAfterLoadAndRestore();
        whatUndoLeaves();
        twoSlots();
        boardsInTheOutput();
        movesInTheOutput();
        bytesOfTheOutput();
        Check.end();
    }

    // ---- changes

    private static void advancedDays() {
        Check.about("Returns the number of letters that arrive in these days.");
        MulePostBishops x = Check.start(Games.TWO_WALKERS);
        Check.same("one day", 0, x.advance(1));
        Check.same("day()", 1, x.day());
        Check.same("sixty days", 0, x.advance(60));
        Check.same("day()", 61, x.day());
        Check.wrongArgument("no day", () -> x.advance(0));
        Check.wrongArgument("sixty-one days", () -> x.advance(61));
        Check.same("day()", 61, x.day());
        x.move(0, 0, 9, 1);
        x.resend(0, 1);
        x.resend(0, 0);
        Check.same("all letters in sixty days", 3, x.advance(60));
        Check.same("none after them", 0, x.advance(60));
    }

    private static void lastDay() {
        Check.about("Throws `IllegalStateException` if the day would be greater than 9999");
        MulePostBishops x = Check.start(Games.TWO_WALKERS);
        Games.passUntil(x, 9939);
        MulePostBishops y = Check.start(Games.TWO_WALKERS);
        Games.passUntil(y, 9940);
        Check.same("from 9939 to 9999", 0, x.advance(60));
        Check.same("day()", 9999, x.day());
        Check.wrongState("from 9940 to 10000", () -> y.advance(60));
        Check.same("from 9940 to 9999", 0, y.advance(59));
        Check.wrongState("from 9999 to 10000", () -> y.advance(1));
        Check.wrongArgument("no day", () -> y.advance(0));
        Check.wrongArgument("sixty-one days", () -> y.advance(61));
        Check.same("no day in a script", 0, Check.run(y, "days 1;"));
        Check.same("day()", 9999, y.day());
        // all else still goes on
        Check.same("a move on the last day", 1, y.move(0, 0, 9, 0));
        Check.same("save on the last day", 9999, y.save(0));
        Check.same("restore on the last day", 9999, y.restore(0));
    }

    private static void stablesOfNineMules() {
        Check.about("Throws `IllegalStateException` if 9 mules or more are in the stable");
        MulePostBishops x = Check.start("game 8 60;bishop 0 0 0;bishop 1 7 0;pass 1 0 8;pass 1 9 9;");
        Check.same("the first mule", 1, x.addMule(0, 0));
        Check.same("the ninth mule", 9, x.addMule(0, 1));
        Check.wrongState("the tenth mule", () -> x.addMule(0, 1));
        Check.wrongState("the tenth mule", () -> x.addMule(1, 0));
        Check.same("no mule by a script", 0, Check.run(x, "mule 1 1;"));
        Check.same("stables", "1 9 9 9", x.mules(0, 0) + " " + x.mules(0, 1) + " " + x.mules(1, 0) + " " + x.mules(1, 1));
        x.move(0, 0, 9, 0);
        x.advance(2);
        Check.same("a tenth mule that comes with a letter", 10, x.mules(0, 1));
        Check.wrongState("the eleventh mule", () -> x.addMule(0, 1));
        Check.same("the first mule of the other side", 1, x.addMule(0, 0));
        x.move(1, 56, 49, 0);
        x.advance(1);
        Check.wrongState("with nine mules again", () -> x.addMule(0, 1));
        x.resend(1, 0);
        x.advance(1);
        Check.same("eight mules", 8, x.mules(0, 1));
        Check.same("the ninth mule", 9, x.addMule(0, 1));
        Check.same("contradictions()", 0, x.contradictions());
    }

    private static void depthsOfSnow() {
        Check.about("Returns the previous depth.");
        MulePostBishops x = Check.start("game 8 60;pass 1 0 8;pass 1 9 9;pass 1 1 1;pass 1 1 1;snow 3 11 9;");
        int previous = 0;
        for (int depth : new int[] {9, 0, 1, 8, 9}) {
            Check.same("setSnow(0, 0, " + depth + ")", previous, x.setSnow(0, 0, depth));
            Check.same("snowDepth(0, 0)", depth, x.snowDepth(0, 0));
            previous = depth;
        }
        Check.same("the last pass and month", 9, x.setSnow(3, 11, 0));
        Check.same("the last pass and month", 0, x.snowDepth(3, 11));
        Check.wrongArgument("a depth below 0", () -> x.setSnow(3, 11, -1));
        Check.wrongArgument("a depth above 9", () -> x.setSnow(3, 11, 10));
        for (int pass = 0; pass < 4; pass++) {
            for (int month = 0; month < 12; month++) {
                Check.same("snow of " + pass + " in " + month, pass == 0 && month == 0 ? 9 : 0, x.snowDepth(pass, month));
            }
        }
        Check.about("Remaining days of letters that are under way do not change.");
        MulePostBishops y = Check.start("game 8 60;bishop 0 0 0;bishop 1 7 0;pass 3 9 9;");
        y.move(0, 0, 9, 0);
        y.advance(1);
        y.setSnow(0, 0, 8);
        y.resend(0, 0);
        Check.same("under way, and still in the queue", "4 13", y.arrivalDay(0) + " " + y.arrivalDay(1));
    }

    private static void lastPromise() {
        Check.about("Throws `IllegalArgumentException` if the other player could not make the expected move on the player's board, "
                + "or the game would be over after it, or the player could not make the reply after it");
        for (int limit = 1; limit <= 3; limit++) {
            MulePostBishops x = Check.start("game 8 " + limit + ";bishop 0 0 0;bishop 1 7 0;pass 1 9 9;");
            if (limit == 1) {
                Check.wrongArgument("the reply 2 of 1", () -> x.promise(1, 0, 0, 9, 56, 49));
            } else {
                Check.same("the reply 2 of " + limit, 2, x.promise(1, 0, 0, 9, 56, 49));
            }
            x.move(0, 0, 9, 0);
            if (limit == 1) {
                Check.wrongState("the reply 3 of 1", () -> x.promise(0, 0, 56, 49, 9, 18));
            } else if (limit == 2) {
                Check.wrongArgument("the reply 3 of 2", () -> x.promise(0, 0, 56, 49, 9, 18));
            } else {
                Check.same("the reply 3 of 3", 3, x.promise(0, 0, 56, 49, 9, 18));
            }
            x.advance(2);
            Check.same("move counts with " + limit, limit + " " + limit, x.moveCount(0) + " " + x.moveCount(1));
            Check.same("over", "truetrue", "" + x.isOver(0) + x.isOver(1));
        }
    }

    private static void promiseBeforeTheEnd() {
        Check.about("or the game would be over after it,");
        MulePostBishops x = Check.start("game 8 60;bishop 0 0 0;bishop 1 7 7;pass 1 9 9;");
        Check.wrongArgument("the last bishop would be captured", () -> x.promise(1, 0, 0, 63, 63, 54));
        MulePostBishops y = Check.start("game 8 60;bishop 0 0 0;bishop 1 7 7;bishop 1 7 0;pass 1 9 9;");
        Check.same("the last bishop but one", 2, y.promise(1, 0, 0, 63, 56, 49));
        // the reply itself may end the game
        MulePostBishops z = Check.start("game 8 60;bishop 0 0 0;bishop 1 7 7;pass 1 9 9;");
        Check.same("a reply that captures the last one", 2, z.promise(1, 0, 0, 9, 63, 9));
        z.move(0, 0, 9, 0);
        z.advance(2);
        Check.same("over", "truetrue11", "" + z.isOver(0) + z.isOver(1) + z.winner(0) + z.winner(1));
    }

    // ---- undo

    private static void eightChanges() {
        Check.about("At most 8 changes can be undone; an older one is forgotten.");
        for (int changes = 0; changes <= 18; changes++) {
            MulePostBishops x = new MulePostBishops();
            for (int i = 1; i <= changes; i++) {
                x.advance(i);
                Check.same("undoCount() after " + i, Math.min(i, 8), x.undoCount());
            }
            int due = Math.min(changes, 8);
            int day = x.day();
            for (int i = 0; i < due; i++) {
                day -= changes - i;
                Check.same("undo() of change " + (changes - i) + " of " + changes, due - 1 - i, x.undo());
                Check.same("day()", day, x.day());
            }
            Check.wrongState("undo() without a change", () -> x.undo());
            Check.same("undoCount()", 0, x.undoCount());
            Check.same("day()", day, x.day());
            x.advance(1);
            Check.same("undoCount() after a new change", 1, x.undoCount());
            Check.same("undo()", 0, x.undo());
            Check.same("day()", day, x.day());
        }
    }

    private static void changesAreRecorded() {
        Check.about("The methods that are marked as changes are recorded, a script as one change.");
        Call[] changes = {x -> x.move(0, 18, 27, 0), x -> x.promise(1, 0, 18, 27, 42, 35), x -> x.resend(3, 0), x -> x.advance(1),
            x -> x.addMule(1, 0), x -> x.setSnow(0, 0, 0), x -> x.setSnow(0, 0, 9), x -> Check.run(x, "days 1;mule 1 0;"),
            x -> Check.run(x, "resend 79 0;"), x -> x.runScript()};
        for (int i = 0; i < changes.length; i++) {
            MulePostBishops due = quiet();
            MulePostBishops x = quiet();
            changes[i].on(x);
            Check.same("undoCount() after change " + i, 1, x.undoCount());
            Check.same("undo() of change " + i, 0, x.undo());
            Check.same("the picture after undo() of change " + i, Picture.game(due), Picture.game(x));
        }
    }

    /** Player 0's turn, the number 5, and no change that can be undone. */
    private static MulePostBishops quiet() {
        MulePostBishops x = Games.overtaking();
        x.advance(8);
        x.save(0);
        x.restore(0);
        return x;
    }

    private static void noChanges() {
        Check.about("Forecasts do not change anything.");
        Call[] calls = {x -> x.arrivalDay(3), x -> x.daysUntilTurn(0), x -> x.daysUntilTurn(1), x -> x.daysUntilEqual(),
            x -> x.fastestPass(0), x -> x.fastestPass(1)};
        for (int i = 0; i < calls.length; i++) {
            MulePostBishops due = Games.overtaking();
            MulePostBishops x = Games.overtaking();
            calls[i].on(x);
            Check.same("the picture after forecast " + i, Picture.whole(due), Picture.whole(x));
        }
        Check.about("Returns the number of changes that can be undone. @return 0 to 8");
        MulePostBishops y = quiet();
        y.save(0);
        y.save(1);
        y.writeBoard(0);
        y.writeMoves(0);
        y.outputByte(0);
        Check.type(y, "days 1;");
        y.truncate(5);
        Check.same("a wrong script", NONE, y.runScript());
        Check.same("a wrong setup", MulePostBishops.SYNTAX, y.load());
        Check.same("undoCount()", 0, y.undoCount());
        y.advance(1);
        Check.same("undoCount()", 1, y.undoCount());
        Check.same("undo() is no change itself", 0, y.undo());
    }

    private static void scriptIsOneChange() {
        Check.about("a script as one change.");
        MulePostBishops x = quiet();
        String due = Picture.game(quiet());
        Check.same("forty commands", 40, Check.run(x, "repeat 20(repeat 20(days 1;snow 1 0 1;););"));
        Check.same("undoCount()", 1, x.undoCount());
        for (int i = 2; i <= 9; i++) {
            Check.same("script " + i, 2, Check.run(x, "days 1;days 2;"));
            Check.same("undoCount()", Math.min(i, 8), x.undoCount());
        }
        for (int i = 7; i >= 0; i--) {
            Check.same("undo() of two commands", i, x.undo());
            Check.same("day()", 12 + 20 + 3 * i, x.day());
        }
        Check.wrongState("the first script is forgotten", () -> x.undo());
        MulePostBishops y = quiet();
        Check.run(y, "repeat 20(repeat 20(days 1;snow 1 0 1;););");
        y.undo();
        Check.same("the picture after undo() of forty commands", due, Picture.game(y));
    }

    private static void refusedChangesKeepTheHistory() {
        Check.about("A method that throws an exception changes nothing.");
        MulePostBishops x = new MulePostBishops();
        for (int i = 1; i <= 8; i++) {
            x.advance(i);
        }
        Check.wrongState("move", () -> x.move(1, 31, 26, 0));
        Check.wrongState("promise", () -> x.promise(0, 0, 31, 26, 4, 9));
        Check.noSuchThing("resend", () -> x.resend(0, 0));
        Check.wrongArgument("advance", () -> x.advance(0));
        Check.noSuchThing("addMule", () -> x.addMule(2, 0));
        Check.wrongArgument("setSnow", () -> x.setSnow(0, 0, 10));
        Check.noSuchThing("restore", () -> x.restore(2));
        Check.fails("restore", java.util.NoSuchElementException.class, () -> x.restore(0));
        Check.same("undoCount()", 8, x.undoCount());
        int day = 36;
        for (int i = 8; i >= 1; i--) {
            Check.same("undo()", i - 1, x.undo());
            day -= i;
            Check.same("day()", day, x.day());
        }
    }

    private static void historyAfterLoadAndRestore() {
        Check.about("no letters exist, the day is 0, all statistics are 0, nothing can be undone, and both slots are empty.");
        MulePostBishops x = Games.overtaking();
        x.save(0);
        x.save(1);
        Check.same("load()", 0, Check.load(x, Games.TWO_WALKERS));
        Check.same("the picture of a new game", Picture.game(Check.start(Games.TWO_WALKERS)), Picture.game(x));
        Check.wrongState("undo()", () -> x.undo());
        Check.fails("restore(0)", java.util.NoSuchElementException.class, () -> x.restore(0));
        Check.fails("restore(1)", java.util.NoSuchElementException.class, () -> x.restore(1));
        Check.about("Restores what a slot contains. The slot keeps it. Afterwards no change can be undone.");
        MulePostBishops y = Games.overtaking();
        for (int i = 0; i < 8; i++) {
            y.save(i % 2);
            y.advance(1);
        }
        Check.same("undoCount()", 8, y.undoCount());
        Check.same("restore(1)", 11, y.restore(1));
        Check.same("undoCount()", 0, y.undoCount());
        Check.wrongState("undo()", () -> y.undo());
        Check.same("day()", 11, y.day());
        for (int i = 0; i < 9; i++) {
            y.advance(1);
        }
        for (int i = 7; i >= 0; i--) {
            Check.same("undo()", i, y.undo());
        }
        Check.same("day() after the ninth change before", 12, y.day());
        Check.same("restore(1) again", 11, y.restore(1));
        Check.same("restore(0)", 10, y.restore(0));
    }

    private static void whatUndoLeaves() {
        Check.about("Undoes the latest change. The text buffer, the error code and position, the output and the slots stay as they are.");
        MulePostBishops x = Games.overtaking();
        x.save(0);
        x.advance(8);
        x.save(1);
        Check.load(x, "game 8 61");
        x.writeMoves(1);
        Check.type(x, "days 60;");
        x.undo();
        Check.same("the output", (int) '0', x.outputByte(0));
        Check.same("the error", MulePostBishops.OUT_OF_RANGE + " 7", x.errorCode() + " " + x.errorPosition());
        Check.same("the length of the text", 8, x.append(0, 0, 0, 0, 0));
        Check.same("the text", 1, x.runScript());
        Check.same("day()", 64, x.day());
        Check.same("slot 0", 4, x.restore(0));
        Check.same("slot 1", 12, x.restore(1));
        Check.same("the output after restore", (int) '0', x.outputByte(0));
    }

    private static void twoSlots() {
        Check.about("Saves everything that undo restores in a slot. It replaces what the slot contained.");
        MulePostBishops x = Games.overtaking();
        Check.same("save(0)", 4, x.save(0));
        x.advance(8);
        Check.same("save(1)", 12, x.save(1));
        x.move(0, 18, 27, 0);
        x.advance(60);
        for (int round = 0; round < 2; round++) {
            Check.same("restore(0)", 4, x.restore(0));
            Check.same("letters and moves", "4 1 4", x.letterCount() + " " + x.moveCount(0) + " " + x.moveCount(1));
            Check.same("restore(1)", 12, x.restore(1));
            Check.same("letters and moves", "4 4 4", x.letterCount() + " " + x.moveCount(0) + " " + x.moveCount(1));
            x.advance(60);
        }
        Check.same("save(0) again", 72, x.save(0));
        x.advance(1);
        Check.same("restore(0)", 72, x.restore(0));
        Check.same("restore(1)", 12, x.restore(1));
        for (int slot : new int[] {-1, 2}) {
            Check.noSuchThing("save(" + slot + ")", () -> x.save(slot));
            Check.noSuchThing("restore(" + slot + ")", () -> x.restore(slot));
        }
        // the whole state, letters under way and remembered promises too
        MulePostBishops y = Games.overtaking();
        y.save(0);
        y.restore(0);
        Check.wrongState("promise 3 again", () -> y.promise(0, 0, 56, 42, 9, 18));
        y.advance(7);
        Check.same("the day before move 2 arrives", "1 1", y.moveCount(0) + " " + y.storedMoves(0));
        y.advance(1);
        Check.same("when move 2 arrives", "4 0", y.moveCount(0) + " " + y.storedMoves(0));
    }

    // ---- output

    private static void boardsInTheOutput() {
        Check.about("Each row is written as one character per column: w (byte 119) for a bishop of player 0, b (byte 98) for a bishop "
                + "of player 1, and a dot (byte 46) for an empty square.");
        MulePostBishops x = Check.start("game 4 60;bishop 0 0 0;bishop 1 3 3;pass 1 1 1;");
        Check.same("the smallest board", 19, x.writeBoard(0));
        int[] due = {46, 46, 46, 98, 47, 46, 46, 46, 46, 47, 46, 46, 46, 46, 47, 119, 46, 46, 46, NONE};
        for (int i = 0; i < due.length; i++) {
            Check.same("outputByte(" + i + ")", due[i], x.outputByte(i));
        }
        MulePostBishops y = Check.start("game 8 60;bishop 0 0 7;bishop 1 7 0;pass 1 1 1;");
        Check.same("the largest board", 71, y.writeBoard(1));
        Check.same("its corners", "98 119 -1", y.outputByte(0) + " " + y.outputByte(70) + " " + y.outputByte(71));
    }

    private static void movesInTheOutput() {
        Check.about("Each move is written as its start square, a hyphen (byte 45) or, if the move captured a bishop, an x (byte 120), "
                + "and its end square, in decimal. A space (byte 32) separates two moves.");
        MulePostBishops x = Check.start("game 8 60;bishop 0 0 0;bishop 1 1 2;bishop 1 7 7;pass 1 9 9;");
        Check.same("no move", 0, x.writeMoves(0));
        Check.same("no byte", NONE, x.outputByte(0));
        x.move(0, 0, 9, 0);
        Check.same("a move of one digit each", 3, x.writeMoves(0));
        Check.same("its bytes", "48 45 57 -1", x.outputByte(0) + " " + x.outputByte(1) + " " + x.outputByte(2) + " " + x.outputByte(3));
        Check.same("no move on the other board", 0, x.writeMoves(1));
        x.advance(2);
        x.move(1, 10, 1, 0);
        Check.same("one digit and two", "0-9 10-1", Check.moves(x, 1));
        x.advance(2);
        x.move(0, 9, 63, 0);
        Check.same("the highest square", "0-9 10-1 9x63", Check.moves(x, 0));
        Check.same("the byte of a capture", 120, x.outputByte(10));
        Check.same("the byte between moves", 32, x.outputByte(8));
    }

    private static void bytesOfTheOutput() {
        Check.about("Returns the byte, NONE if the output has no byte with this index.");
        MulePostBishops x = new MulePostBishops();
        int[] far = {-1, Integer.MIN_VALUE, Integer.MAX_VALUE};
        for (int index : new int[] {0, 1, -1, Integer.MIN_VALUE, Integer.MAX_VALUE}) {
            Check.same("outputByte(" + index + ") of a new object", NONE, x.outputByte(index));
        }
        int length = x.writeBoard(0);
        Check.same("the first byte", 46, x.outputByte(0));
        Check.same("the last byte", 46, x.outputByte(length - 1));
        Check.same("one byte further", NONE, x.outputByte(length));
        for (int index : far) {
            Check.same("outputByte(" + index + ")", NONE, x.outputByte(index));
        }
        Check.about("Writes the moves that were applied to a player's board to the output, which is replaced.");
        x.move(0, 4, 24, 0);
        Check.same("a shorter output", 4, x.writeMoves(0));
        Check.same("its end", "52 -1", x.outputByte(3) + " " + x.outputByte(4));
        Check.same("an empty output", 0, x.writeMoves(1));
        Check.same("its end", NONE, x.outputByte(0));
        Check.about("Writes a player's board to the output, which is replaced.");
        Check.same("a longer output", 41, x.writeBoard(1));
        Check.same("its end", "46 -1", x.outputByte(40) + " " + x.outputByte(41));
    }
}
