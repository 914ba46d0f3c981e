import java.util.NoSuchElementException;

/** Promises 55 to 58: undo and slots. */
public final class UndoTest {
    private static final int NONE = MulePostBishops.NONE;

    public static void main(String[] args) {
        promise55UndoCount();
        promise56UndoOfEveryChange();
        promise56Statistics();
        promise56WhatStays();
        promise57Save();
        promise58Restore();
        promise58Everything();
        promise58AfterOtherMoves();
        Check.end();
    }

    private static void promise55UndoCount() {
        MulePostBishops x = new MulePostBishops();
        Check.same("at first", 0, x.undoCount());
        for (int i = 1; i <= 12; i++) {
            x.advance(i);
            Check.same("after " + i, Math.min(i, 8), x.undoCount());
        }
        x.save(0);
        x.writeBoard(0);
        x.daysUntilEqual();
        Check.same("no changes", 8, x.undoCount());
        // the older changes are forgotten: 1 + 2 + 3 + 4 days stay
        for (int i = 7; i >= 0; i--) {
            Check.same("undo()", i, x.undo());
            Check.same("undoCount()", i, x.undoCount());
        }
        Check.same("day()", 10, x.day());
        Check.wrongState("undo()", () -> x.undo());
        Check.same("day()", 10, x.day());
        x.advance(1);
        Check.same("anew", 1, x.undoCount());
        Check.same("undo()", 0, x.undo());
        Check.same("day()", 10, x.day());
    }

    private static void promise56UndoOfEveryChange() {
        MulePostBishops x = new MulePostBishops();
        x.move(0, 4, 24, 0);
        x.promise(0, 1, 31, 21, 1, 22);
        x.resend(0, 1);
        x.advance(8);
        x.addMule(0, 1);
        x.setSnow(1, 0, 6);
        Check.run(x, "days 1;snow 1 0 7;");
        Check.same("day()", 9, x.day());
        Check.same("snowDepth(1, 0)", 7, x.snowDepth(1, 0));
        Check.same("undo of a script", 6, x.undo());
        Check.same("day()", 8, x.day());
        Check.same("snowDepth(1, 0)", 6, x.snowDepth(1, 0));
        Check.same("undo of setSnow", 5, x.undo());
        Check.same("snowDepth(1, 0)", 0, x.snowDepth(1, 0));
        Check.same("mules(0, 1)", 3, x.mules(0, 1));
        Check.same("undo of addMule", 4, x.undo());
        Check.same("mules(0, 1)", 2, x.mules(0, 1));
        Check.same("moveCount(1)", 1, x.moveCount(1));
        Check.same("undo of advance", 3, x.undo());
        Check.same("mules(0, 1)", 1, x.mules(0, 1));
        Check.same("moveCount(1)", 0, x.moveCount(1));
        Check.same("states", "000", "" + x.letterState(0) + x.letterState(1) + x.letterState(2));
        Check.same("queues", "12", "" + x.queueLength(0, 0) + x.queueLength(1, 0));
        Check.same("undo of resend", 2, x.undo());
        Check.same("letterCount()", 2, x.letterCount());
        Check.same("undo of promise", 1, x.undo());
        Check.same("letterCount()", 1, x.letterCount());
        Check.same("the promise is forgotten", 3, x.promise(0, 1, 31, 26, 1, 22));
        Check.same("undo of promise", 1, x.undo());
        Check.same("undo of move", 0, x.undo());
        Check.same("letterCount()", 0, x.letterCount());
        Check.same("board", ".b..b./.....b/....../....../w...../.w..w.", Check.board(x, 0));
        Check.same("contradictions()", 0, x.contradictions());
        Check.wrongState("undo()", () -> x.undo());
    }

    private static void promise56Statistics() {
        MulePostBishops x = Games.overtaking();
        x.resend(3, 0);
        x.advance(12);
        Check.same("statistics", "1 1 12 6.0 5.2 0", statistics(x));
        x.undo();
        Check.same("before", "0 0 0 0.0 2.0 1", statistics(x));
        x.advance(12);
        Check.same("again", "1 1 12 6.0 5.2 0", statistics(x));
    }

    /** Travel: 2, 2, 2, 10 and 10 days in all. */
    private static String statistics(MulePostBishops x) {
        return x.duplicateCount() + " " + x.keptPromises(0) + " " + x.longestWait(0) + " " + x.meanWait(0) + " "
                + x.meanTravel() + " " + x.storedMoves(0);
    }

    private static void promise56WhatStays() {
        MulePostBishops x = new MulePostBishops();
        x.advance(3);
        x.save(1);
        x.advance(4);
        Check.load(x, "game 4 1;pas");
        x.writeBoard(0);
        Check.type(x, "day");
        x.undo();
        x.undo();
        Check.same("day()", 0, x.day());
        Check.same("errorCode()", MulePostBishops.SYNTAX, x.errorCode());
        Check.same("errorPosition()", 9, x.errorPosition());
        Check.same("outputByte(40)", 46, x.outputByte(40));
        Check.same("the text buffer", 3, x.truncate(0));
        Check.same("the slot", 3, x.restore(1));
        Check.fails("the other slot", NoSuchElementException.class, () -> x.restore(0));
    }

    private static void promise57Save() {
        MulePostBishops x = new MulePostBishops();
        x.advance(5);
        Check.same("save(0)", 5, x.save(0));
        x.advance(6);
        Check.same("save(1)", 11, x.save(1));
        Check.same("undoCount()", 2, x.undoCount());
        Check.same("restore(0)", 5, x.restore(0));
        Check.same("restore(1)", 11, x.restore(1));
        x.advance(1);
        Check.same("save(1) again", 12, x.save(1));
        Check.same("replaced", 12, x.restore(1));
        Check.same("the other", 5, x.restore(0));
        Check.noSuchThing("save(2)", () -> x.save(2));
        Check.noSuchThing("save(-1)", () -> x.save(-1));
    }

    private static void promise58Restore() {
        MulePostBishops x = new MulePostBishops();
        Check.fails("restore(0)", NoSuchElementException.class, () -> x.restore(0));
        Check.fails("restore(1)", NoSuchElementException.class, () -> x.restore(1));
        Check.noSuchThing("restore(2)", () -> x.restore(2));
        Check.noSuchThing("restore(-1)", () -> x.restore(-1));
        x.move(0, 4, 24, 0);
        x.save(0);
        Check.fails("restore(1)", NoSuchElementException.class, () -> x.restore(1));
        Check.same("undoCount() after a fault", 1, x.undoCount());
        x.advance(9);
        Check.same("restore(0)", 0, x.restore(0));
        Check.same("day()", 0, x.day());
        Check.same("letterCount()", 1, x.letterCount());
        Check.same("undoCount()", 0, x.undoCount());
        Check.wrongState("undo()", () -> x.undo());
        x.advance(9);
        Check.same("the slot keeps it", 0, x.restore(0));
        x.advance(2);
        Check.same("undo()", 0, x.undo());
        Check.same("day()", 0, x.day());
    }

    private static void promise58AfterOtherMoves() {
        MulePostBishops x = Check.start("game 4 9;bishop 0 0 0;bishop 0 0 1;bishop 1 2 2;bishop 1 3 2;pass 1 1 1;");
        x.move(0, 0, 10, 0);
        x.save(0);
        x.advance(2);
        x.save(1);
        x.undo();
        x.undo();
        x.advance(7);
        x.move(0, 0, 5, 0);
        x.advance(2);
        Check.same("another move", "0-5", Check.moves(x, 1));
        Check.same("another arrival", 9, x.arrivalDay(0));
        Check.same("restore(1)", 2, x.restore(1));
        Check.same("the capture", "0x10", Check.moves(x, 1));
        Check.same("arrivalDay(0)", 2, x.arrivalDay(0));
        Check.same("contradictions()", 0, x.contradictions());
        Check.same("restore(0)", 0, x.restore(0));
        Check.same("the capture", "0x10", Check.moves(x, 0));
        x.advance(3);
        Check.same("meanTravel()", 2.0f, x.meanTravel());
        Check.same("contradictions()", 0, x.contradictions());
    }

    private static void promise58Everything() {
        MulePostBishops x = Games.overtaking();
        x.setSnow(0, 3, 7);
        x.save(1);
        Check.run(x, "days 60;resend 0 0;mule 0 0;snow 0 3 1;days 60;");
        x.move(0, 18, 27, 0);
        Check.load(x, "game 4");
        x.writeBoard(0);
        Check.type(x, "abc");
        Check.same("restore(1)", 4, x.restore(1));
        Check.same("snowDepth(0, 3)", 7, x.snowDepth(0, 3));
        Check.same("moves of 0", "0-9", Check.moves(x, 0));
        Check.same("moves of 1", "0-9 56-49 9-18 49-42", Check.moves(x, 1));
        Check.same("letterCount()", 4, x.letterCount());
        Check.same("statistics", "0 0 0 0.0 2.0 1", statistics(x));
        Check.same("errorPosition()", 6, x.errorPosition());
        Check.same("the text buffer", 3, x.truncate(0));
        Check.same("arrivalDay(2)", 12, x.arrivalDay(2));
        x.advance(8);
        Check.same("moves of 0", "0-9 56-49 9-18 49-42", Check.moves(x, 0));
        Check.same("outputByte(99)", NONE, x.outputByte(99));
        Check.same("contradictions()", 0, x.contradictions());
    }
}
