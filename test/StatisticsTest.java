/** Promises 36 to 41: the statistics. */
public final class StatisticsTest {
    public static void main(String[] args) {
        promise36Duplicates();
        promise37KeptPromises();
        promises38And39Waits();
        promise40MeanTravel();
        promise41Contradictions();
        Check.end();
    }

    private static void promise36Duplicates() {
        MulePostBishops x = Games.overtaking();
        Check.same("at first", 0, x.duplicateCount());
        // a stored move, a known promise and an applied move
        x.resend(3, 1);
        x.resend(1, 1);
        x.resend(0, 1);
        Check.same("arrivals", 0, x.advance(1));
        Check.same("arrivals", 3, x.advance(1));
        Check.same("three duplicates", 3, x.duplicateCount());
        x.advance(8);
        Check.same("move 2 is none", 3, x.duplicateCount());
        // a promise whose move was not played is no duplicate, though its number was applied
        MulePostBishops y = Check.start(Games.TWO_WALKERS);
        y.promise(1, 0, 0, 18, 56, 49);
        y.move(0, 0, 9, 1);
        y.advance(2);
        y.move(1, 56, 42, 1);
        y.advance(2);
        Check.same("moveCount(0)", 2, y.moveCount(0));
        y.advance(6);
        Check.same("state of the promise", 2, y.letterState(0));
        Check.same("no duplicate", 0, y.duplicateCount());
        y.resend(0, 1);
        y.advance(2);
        Check.same("its copy", 1, y.duplicateCount());
    }

    private static void promise37KeptPromises() {
        MulePostBishops x = Games.overtaking();
        Check.same("before", "00", "" + x.keptPromises(0) + x.keptPromises(1));
        x.advance(8);
        Check.same("after", "10", "" + x.keptPromises(0) + x.keptPromises(1));
        // the reply counts when it is applied to the own board, whether the other player knows it or not
        MulePostBishops y = Check.start(Games.TWO_WALKERS);
        y.promise(1, 0, 0, 9, 56, 49);
        y.move(0, 0, 9, 1);
        y.advance(2);
        Check.same("player 1", "01", "" + y.keptPromises(0) + y.keptPromises(1));
        Check.same("move counts", "12", "" + y.moveCount(0) + y.moveCount(1));
        y.advance(8);
        Check.same("move counts", "22", "" + y.moveCount(0) + y.moveCount(1));
        Check.same("player 1", "01", "" + y.keptPromises(0) + y.keptPromises(1));
        // a promise whose move was not played
        MulePostBishops z = Check.start(Games.TWO_WALKERS);
        z.promise(1, 1, 0, 18, 56, 49);
        z.move(0, 0, 9, 1);
        z.advance(9);
        Check.same("no effect", "01true", "" + z.keptPromises(1) + z.moveCount(1) + z.isTurn(1));
        Check.noSuchThing("player 2", () -> x.keptPromises(2));
        Check.noSuchThing("player -1", () -> x.keptPromises(-1));
    }

    private static void promises38And39Waits() {
        MulePostBishops x = Games.overtaking();
        // player 1 has made move 2 before the promised move 3 was applied, on the same day
        Check.same("longest", "00", "" + x.longestWait(0) + x.longestWait(1));
        Check.same("mean", "0.0 0.0", x.meanWait(0) + " " + x.meanWait(1));
        x.advance(8);
        // player 0: move 2 after twelve days, then the own reply, and move 4 on the same day
        Check.same("longestWait(0)", 12, x.longestWait(0));
        Check.same("meanWait(0)", 6.0, x.meanWait(0));
        x.move(0, 18, 27, 1);
        x.advance(2);
        // player 1: move 5 arrives on day 14, the latest own move was made on day 2
        Check.same("longestWait(1)", 12, x.longestWait(1));
        Check.same("meanWait(1)", 6.0, x.meanWait(1));
        x.move(1, 42, 35, 1);
        x.advance(2);
        // player 0: move 6 on day 16, four days after move 5
        Check.same("longestWait(0)", 12, x.longestWait(0));
        Check.same("meanWait(0)", (double) 16 / (double) 3, x.meanWait(0));
        // no waiting time before the first own move
        MulePostBishops y = Check.start(Games.TWO_WALKERS);
        y.move(0, 0, 9, 0);
        y.advance(20);
        Check.same("before the first own move", "0 0.0", y.longestWait(1) + " " + y.meanWait(1));
        Check.noSuchThing("longestWait(2)", () -> x.longestWait(2));
        Check.noSuchThing("longestWait(-1)", () -> x.longestWait(-1));
        Check.noSuchThing("meanWait(2)", () -> x.meanWait(2));
        Check.noSuchThing("meanWait(-1)", () -> x.meanWait(-1));
    }

    private static void promise40MeanTravel() {
        MulePostBishops x = Check.start(Games.TWO_WALKERS);
        Check.same("at first", 0.0f, x.meanTravel());
        x.move(0, 0, 9, 0);
        x.advance(1);
        Check.same("under way", 0.0f, x.meanTravel());
        // ten days from posting to arrival, and the copies two days each
        x.advance(9);
        Check.same("one letter", 10.0f, x.meanTravel());
        x.resend(0, 1);
        x.resend(0, 1);
        x.advance(2);
        Check.same("three letters", (float) 14 / (float) 3, x.meanTravel());
        // waiting in a queue counts
        MulePostBishops y = Check.start("game 8 60;bishop 0 0 0;bishop 1 7 0;pass 1 0 0;");
        y.move(0, 0, 9, 0);
        y.advance(50);
        y.addMule(0, 0);
        y.advance(2);
        Check.same("with the queue", 52.0f, y.meanTravel());
    }

    private static void promise41Contradictions() {
        MulePostBishops x = Games.overtaking();
        Check.same("contradictions()", 0, x.contradictions());
        x.addMule(1, 0);
        x.resend(3, 1);
        x.advance(1);
        Check.same("with mules under way", 0, x.contradictions());
        x.advance(60);
        Check.same("after all", 0, x.contradictions());
        x.undo();
        x.undo();
        x.undo();
        Check.same("after undo", 0, x.contradictions());
        MulePostBishops y = Check.start("game 4 9;bishop 0 0 0;bishop 0 0 1;bishop 1 2 2;pass 1 1 1;");
        y.move(0, 0, 10, 0);
        Check.same("after a capture", 0, y.contradictions());
        y.undo();
        Check.same("after its undo", 0, y.contradictions());
    }
}
