/** The sentences about changes, output, undo and slots that name no boundary, each with a test of its own (46 to 58). */
public final class ChangeSentenceTest {
    private static final int NONE = MulePostBishops.NONE;
    private static final int WAITING = MulePostBishops.WAITING;
    private static final int ARRIVED = MulePostBishops.ARRIVED;
    private static final String HEAD = "game 8 60;bishop 0 0 0;bishop 1 7 0;";

    private interface Call {
        Object on(MulePostBishops x);
    }

    public static void main(String[] args) {
        whatIsAChange();
        copiesOfLetters();
        copiesOfMovesAndPromises();
        copiesTravelLikeOthers();
        daysPass();
        oneMule();
        bytesOfTheOutput();
        changesLeft();
        daysOfSlots();
        Check.end();
    }

    private static void whatIsAChange() {
        Check.about("Change.");
        Call[] changes = {x -> x.move(0, 18, 27, 0), x -> x.promise(1, 0, 18, 27, 42, 35), x -> x.resend(0, 0), x -> x.advance(1),
            x -> x.addMule(1, 0), x -> x.setSnow(0, 0, 1), x -> x.runScript()};
        Call[] others = {x -> x.append(0, 0, 0, 0, ' '), x -> x.truncate(0), x -> x.errorCode(), x -> x.errorPosition(),
            x -> x.boardSize(), x -> x.day(), x -> x.canMove(0, 18, 27), x -> x.mobility(0, 0), x -> x.movedFrom(0, 1),
            x -> x.areBoardsEqual(), x -> x.travelDays(0), x -> x.letterState(0), x -> x.reasonToWait(0), x -> x.meanTravel(),
            x -> x.contradictions(), x -> x.arrivalDay(0), x -> x.daysUntilTurn(1), x -> x.daysUntilEqual(), x -> x.fastestPass(0),
            x -> x.writeBoard(0), x -> x.writeMoves(0), x -> x.outputByte(0), x -> x.undoCount(), x -> x.save(0)};
        for (int i = 0; i < changes.length; i++) {
            MulePostBishops x = atTurn();
            changes[i].on(x);
            Check.same("undoCount() after change " + i, 1, x.undoCount());
        }
        MulePostBishops y = atTurn();
        for (int i = 0; i < others.length; i++) {
            others[i].on(y);
            Check.same("undoCount() after call " + i, 0, y.undoCount());
        }
    }

    /** Player 0's turn, the number 5, and no change that can be undone. */
    private static MulePostBishops atTurn() {
        MulePostBishops x = Games.overtaking();
        x.advance(8);
        x.save(0);
        x.restore(0);
        return x;
    }

    // ---- copies

    private static String letter(MulePostBishops x, int letter) {
        return x.writer(letter) + " " + x.letterNumber(letter) + " " + x.isPromise(letter);
    }

    private static void copiesOfLetters() {
        Check.about("The writer of a letter posts a copy of it as a new letter.", "Returns the number of the new letter.");
        MulePostBishops x = Games.overtaking();
        for (int original = 0; original < 4; original++) {
            for (int pass = 0; pass < 2; pass++) {
                int count = x.letterCount();
                int state = x.letterState(original);
                int arrival = x.arrivalDay(original);
                int side = x.writer(original);
                int queue = x.queueLength(pass, side);
                int otherQueue = x.queueLength(pass, 1 - side);
                Check.same("the new letter", count, x.resend(original, pass));
                Check.same("letterCount()", count + 1, x.letterCount());
                Check.same("the copy of " + original, letter(x, original) + " " + WAITING, letter(x, count) + " "
                        + x.letterState(count));
                Check.same("the queues", (queue + 1) + " " + otherQueue, x.queueLength(pass, side) + " "
                        + x.queueLength(pass, 1 - side));
                Check.same("the original", state + " " + arrival, x.letterState(original) + " " + x.arrivalDay(original));
            }
        }
        Check.same("a copy of a copy", 12, x.resend(11, 0));
        Check.same("is like the first letter", letter(x, 3), letter(x, 12));
    }

    private static void copiesOfMovesAndPromises() {
        Check.about("The writer of a letter posts a copy of it as a new letter.");
        // no letter ever leaves over pass 1
        MulePostBishops x = Check.start(HEAD + "pass 1 9 9;pass 1 0 0;");
        x.promise(1, 1, 0, 9, 56, 49);
        x.move(0, 0, 9, 1);
        x.advance(5);
        Check.same("nothing has arrived", "1 0", x.moveCount(0) + " " + x.moveCount(1));
        x.resend(1, 0);
        x.advance(2);
        Check.same("the copy of the move", "1 2", x.moveCount(0) + " " + x.moveCount(1));
        Check.same("the moves", "0-9 56-49", Check.moves(x, 1));
        x.resend(0, 1);
        x.resend(3, 0);
        x.advance(2);
        Check.same("the copy of the copy of the promise", "2 2", x.moveCount(0) + " " + x.moveCount(1));
        Check.same("the moves", "0-9 56-49", Check.moves(x, 0));
        Check.same("no duplicates", 0, x.duplicateCount());
        Check.same("the originals still wait", "0 0", x.letterState(0) + " " + x.letterState(1));
    }

    private static void copiesTravelLikeOthers() {
        Check.about("The new letter waits and travels like any other one.");
        for (int pass = 0; pass < 2; pass++) {
            for (int day = 0; day <= 30; day += 6) {
                // a second move letter on one day, and in its place a copy of an old letter
                MulePostBishops due = oneMoveEach(day);
                MulePostBishops x = oneMoveEach(day);
                due.move(0, 9, 18, pass);
                x.resend(0, pass);
                for (int i = 0; i < 50; i++) {
                    Check.same("the state on day " + due.day() + " over pass " + pass, due.letterState(2), x.letterState(2));
                    Check.same("the mules", due.mules(pass, 0) + " " + due.mules(pass, 1), x.mules(pass, 0) + " "
                            + x.mules(pass, 1));
                    due.advance(1);
                    x.advance(1);
                }
                Check.same("arrivalDay(2)", due.arrivalDay(2), x.arrivalDay(2));
                Check.same("meanTravel()", due.meanTravel(), x.meanTravel());
            }
        }
    }

    /** The letters 0 and 1, and player 0's turn; pass 0 is closed in month 1, and pass 1 has few mules. */
    private static MulePostBishops oneMoveEach(int days) {
        MulePostBishops x = Check.start(HEAD + "pass 2 9 9;pass 5 1 0;snow 0 1 9;snow 1 0 2;");
        x.move(0, 0, 9, 0);
        x.advance(3);
        x.move(1, 56, 49, 0);
        x.advance(3);
        if (days > 0) {
            x.advance(days);
        }
        return x;
    }

    // ---- days and mules

    private static void daysPass() {
        Check.about("Days pass.");
        for (int days : new int[] {1, 2, 7, 8, 9, 30, 59, 60}) {
            MulePostBishops due = underWay();
            MulePostBishops x = underWay();
            int arrived = 0;
            for (int i = 0; i < days; i++) {
                arrived += due.advance(1);
            }
            Check.same("advance(" + days + ")", arrived, x.advance(days));
            Check.same("day()", due.day(), x.day());
            due.save(0);
            due.restore(0);
            x.save(0);
            x.restore(0);
            Check.same("the picture after " + days + " days", Picture.game(due), Picture.game(x));
        }
    }

    private static MulePostBishops underWay() {
        MulePostBishops x = Games.overtaking();
        x.setSnow(1, 1, 9);
        x.resend(3, 1);
        x.resend(0, 0);
        x.advance(20);
        x.resend(2, 0);
        x.resend(1, 1);
        return x;
    }

    private static void oneMule() {
        Check.about("One mule is added to a stable.", "Returns the number of mules in the stable.");
        for (int stable = 0; stable < 4; stable++) {
            MulePostBishops x = Check.start(HEAD + "pass 1 0 1;pass 1 5 8;");
            int[] due = {0, 1, 5, 8};
            due[stable]++;
            Check.same("addMule(" + stable / 2 + ", " + stable % 2 + ")", due[stable], x.addMule(stable / 2, stable % 2));
            for (int i = 0; i < 4; i++) {
                Check.same("mules(" + i / 2 + ", " + i % 2 + ")", due[i], x.mules(i / 2, i % 2));
            }
            x.move(0, 0, 9, 0);
            x.advance(2);
            // only an added mule can have taken the letter
            Check.same("the letter", stable == 0 ? ARRIVED : WAITING, x.letterState(0));
        }
    }

    // ---- output, undo and slots

    private static void bytesOfTheOutput() {
        Check.about("Returns the number of bytes of the output.", "Returns a byte of the output.");
        MulePostBishops x = Check.start("game 4 9;bishop 0 0 0;bishop 1 3 3;bishop 1 2 0;pass 1 1 1;");
        x.move(0, 0, 15, 0);
        String[] due = {"...w/b.../..../....", "...b/b.../..../w...", "0x15", ""};
        for (int i = 0; i < due.length; i++) {
            Check.same("the length", due[i].length(), i < 2 ? x.writeBoard(i) : x.writeMoves(i - 2));
            for (int j = 0; j < due[i].length(); j++) {
                Check.same("outputByte(" + j + ") of " + due[i], (int) due[i].charAt(j), x.outputByte(j));
            }
            Check.same("no further byte", NONE, x.outputByte(due[i].length()));
        }
    }

    private static void changesLeft() {
        Check.about("Returns the number of changes that can still be undone.");
        MulePostBishops x = new MulePostBishops();
        for (int changes = 1; changes <= 6; changes++) {
            for (int i = 0; i < changes; i++) {
                x.advance(1);
            }
            for (int i = changes - 1; i >= 0; i--) {
                Check.same("undo()", i, x.undo());
                Check.same("undoCount()", i, x.undoCount());
            }
        }
        Check.same("day()", 0, x.day());
    }

    private static void daysOfSlots() {
        MulePostBishops x = new MulePostBishops();
        for (int day = 0; day <= 60; day += 20) {
            Check.about("Returns the present day.");
            Check.same("save(0)", day, x.save(0));
            x.advance(7);
            Check.same("save(1)", day + 7, x.save(1));
            Check.about("Returns the restored day.");
            Check.same("restore(0)", day, x.restore(0));
            Check.same("day()", day, x.day());
            Check.same("restore(1)", day + 7, x.restore(1));
            Check.same("day()", day + 7, x.day());
            x.advance(13);
        }
    }
}
