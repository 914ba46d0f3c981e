/** Promises 42 to 45: the forecasts. */
public final class ForecastTest {
    private static final int NONE = MulePostBishops.NONE;
    private static final String HEAD = "game 8 60;bishop 0 0 0;bishop 1 7 0;";

    public static void main(String[] args) {
        promise42ArrivalDay();
        promise42ClosedMonths();
        promises42To45FourHundredDays();
        promises42To45FourHundredAndOneDays();
        forecastsLookBeyondTheLastDay();
        promise43DaysUntilTurn();
        promise44DaysUntilEqual();
        promise45FastestPass();
        promise45FullPost();
        forecastsChangeNothing();
        Check.end();
    }

    private static void promise42ArrivalDay() {
        MulePostBishops x = Games.overtaking();
        Check.same("arrival days", "2 2 12 4",
                x.arrivalDay(0) + " " + x.arrivalDay(1) + " " + x.arrivalDay(2) + " " + x.arrivalDay(3));
        x.resend(2, 0);
        Check.same("a letter in a queue", 14, x.arrivalDay(4));
        x.advance(30);
        Check.same("days of the past", "2 2 12 4 14", x.arrivalDay(0) + " " + x.arrivalDay(1) + " " + x.arrivalDay(2)
                + " " + x.arrivalDay(3) + " " + x.arrivalDay(4));
        Check.noSuchThing("letter 5", () -> x.arrivalDay(5));
        Check.noSuchThing("letter -1", () -> x.arrivalDay(-1));
        Check.noSuchThing("letter 83", () -> x.arrivalDay(83));
    }

    private static void promise42ClosedMonths() {
        // the only mule of the pass is on the other side
        MulePostBishops x = Check.start(HEAD + "pass 2 0 1;");
        x.move(0, 0, 9, 0);
        Check.same("without a mule", NONE, x.arrivalDay(0));
        x.addMule(0, 0);
        Check.same("with a mule", 3, x.arrivalDay(0));
        x.setSnow(0, 0, 9);
        Check.same("leaves on day 30", 32, x.arrivalDay(0));
        for (int month = 1; month < 12; month++) {
            x.setSnow(0, month, 9);
        }
        Check.same("always closed", NONE, x.arrivalDay(0));
        x.setSnow(0, 11, 8);
        // leaves on day 330 for 2 + 8 days
        Check.same("open in month 11", 340, x.arrivalDay(0));
        x.setSnow(0, 11, 9);
        x.setSnow(0, 0, 8);
        x.advance(25);
        // left on day 1 for ten days and arrived on day 11
        Check.same("in the past", 11, x.arrivalDay(0));
        x.addMule(0, 0);
        x.resend(0, 0);
        // leaves on day 26, three days until day 29, and seven more from day 360 on
        Check.same("held up for 11 months", 366, x.arrivalDay(1));
    }

    /**
     * Letters that share one mule on pass 0, each of which leaves when the one before it arrives: the fillers are copies
     * that say nothing new, alternately of both players. The other pass, over which two moves were sent, is closed now.
     */
    private static MulePostBishops chain(int travel, int firstSide, int fillers) {
        MulePostBishops x = Check.start(HEAD + "pass " + travel + (firstSide == 0 ? " 1 0" : " 0 1") + ";pass 1 1 1;");
        x.move(0, 0, 9, 1);
        x.advance(2);
        x.move(1, 56, 49, 1);
        x.advance(2);
        StringBuilder script = new StringBuilder();
        for (int month = 0; month < 12; month++) {
            script.append("snow 1 ").append(month).append(" 9;");
        }
        Check.same("pass 1 is closed", 12, Check.run(x, script.toString()));
        for (int i = 0; i < fillers; i++) {
            x.resend(i % 2 == 0 ? firstSide : 1 - firstSide, 0);
        }
        return x;
    }

    private static void promises42To45FourHundredDays() {
        // the 57th letter arrives after 1 + 57 * 7 = 400 days, on day 404
        MulePostBishops x = chain(7, 0, 56);
        Check.same("fastestPass(0)", 0, x.fastestPass(0));
        x.move(0, 9, 18, 0);
        x.resend(1, 0);
        Check.same("the 56th letter", 4 + 393, x.arrivalDay(57));
        Check.same("the 57th letter", 404, x.arrivalDay(58));
        Check.same("the 58th letter", NONE, x.arrivalDay(59));
        Check.same("daysUntilTurn(1)", 400, x.daysUntilTurn(1));
        Check.same("daysUntilEqual()", 400, x.daysUntilEqual());
        x.advance(1);
        Check.same("the 57th letter", 404, x.arrivalDay(58));
        Check.same("daysUntilTurn(1)", 399, x.daysUntilTurn(1));
        Check.same("daysUntilEqual()", 399, x.daysUntilEqual());
    }

    private static void promises42To45FourHundredAndOneDays() {
        // the 50th letter arrives after 1 + 50 * 8 = 401 days, on day 405
        MulePostBishops x = chain(8, 1, 49);
        Check.same("fastestPass(0)", NONE, x.fastestPass(0));
        x.move(0, 9, 18, 0);
        Check.same("the 50th letter", NONE, x.arrivalDay(51));
        Check.same("daysUntilTurn(1)", NONE, x.daysUntilTurn(1));
        Check.same("daysUntilEqual()", NONE, x.daysUntilEqual());
        x.advance(1);
        Check.same("the 50th letter", 405, x.arrivalDay(51));
        Check.same("daysUntilTurn(1)", 400, x.daysUntilTurn(1));
        Check.same("daysUntilEqual()", 400, x.daysUntilEqual());
    }

    private static void forecastsLookBeyondTheLastDay() {
        MulePostBishops x = Check.start(Games.TWO_WALKERS);
        Games.passUntil(x, 9999);
        x.move(0, 0, 9, 0);
        Check.same("arrivalDay(0)", 10009, x.arrivalDay(0));
        Check.same("daysUntilTurn(1)", 10, x.daysUntilTurn(1));
        Check.same("daysUntilEqual()", 10, x.daysUntilEqual());
        Check.same("fastestPass(0)", 1, x.fastestPass(0));
        Check.wrongState("advance(1)", () -> x.advance(1));
    }

    private static void promise43DaysUntilTurn() {
        MulePostBishops x = Games.overtaking();
        // move 2 arrives in 8 days, and with it the promise and the stored move are applied
        Check.same("daysUntilTurn(0)", 8, x.daysUntilTurn(0));
        Check.same("daysUntilTurn(1)", NONE, x.daysUntilTurn(1));
        x.advance(8);
        Check.same("now", 0, x.daysUntilTurn(0));
        MulePostBishops y = Check.start("game 4 1;bishop 0 0 0;bishop 1 0 3;pass 1 1 1;");
        y.move(0, 0, 5, 0);
        Check.same("never again", NONE, y.daysUntilTurn(1));
        Check.noSuchThing("player 2", () -> x.daysUntilTurn(2));
        Check.noSuchThing("player -1", () -> x.daysUntilTurn(-1));
    }

    private static void promise44DaysUntilEqual() {
        MulePostBishops x = Games.overtaking();
        Check.same("daysUntilEqual()", 8, x.daysUntilEqual());
        x.advance(8);
        Check.same("now", 0, x.daysUntilEqual());
        MulePostBishops y = Check.start(HEAD + "pass 1 0 0;");
        Check.same("at first", 0, y.daysUntilEqual());
        y.move(0, 0, 9, 0);
        Check.same("without a mule", NONE, y.daysUntilEqual());
        // a promise makes the boards equal later than the move does: the other board stands still meanwhile
        MulePostBishops z = Check.start(Games.TWO_WALKERS);
        z.promise(1, 0, 0, 9, 56, 49);
        z.move(0, 0, 9, 1);
        Check.same("when the promise is known", 10, z.daysUntilEqual());
        Check.same("its writer's turn", NONE, z.daysUntilTurn(1));
        Check.same("the reader's turn", 10, z.daysUntilTurn(0));
    }

    private static void promise45FastestPass() {
        MulePostBishops x = new MulePostBishops();
        Check.same("five days against seven", "10", x.fastestPass(0) + "" + x.fastestPass(1));
        x.setSnow(0, 0, 2);
        Check.same("the lowest of equal ones", 0, x.fastestPass(0));
        x.move(0, 4, 24, 0);
        Check.same("behind a letter", 1, x.fastestPass(0));
        MulePostBishops y = Check.start(HEAD + "pass 9 0 9;pass 1 0 1;pass 2 1 0;snow 2 0 9;");
        y.promise(1, 1, 0, 9, 56, 49);
        // pass 1: the promise brings a mule on day 2, and a letter would leave at once and arrive on day 3
        Check.same("with a mule that comes", 1, y.fastestPass(0));
        y.undo();
        // pass 2 opens on day 30; the others have no mule for player 0
        Check.same("when the pass opens", 2, y.fastestPass(0));
        Check.same("of the other side", 1, y.fastestPass(1));
        MulePostBishops z = Check.start(HEAD + "pass 1 0 0;");
        Check.same("no mule", NONE, z.fastestPass(0));
        Check.noSuchThing("player 2", () -> x.fastestPass(2));
        Check.noSuchThing("player -1", () -> x.fastestPass(-1));
    }

    private static void promise45FullPost() {
        MulePostBishops x = Games.fullPost();
        // pass 1: nine letters leave on day 1, and no mule comes back; pass 0 is free
        Check.same("fastestPass(0)", 0, x.fastestPass(0));
        Check.same("fastestPass(1)", 1, x.fastestPass(1));
        Check.same("letterCount()", 80, x.letterCount());
        MulePostBishops y = Check.start(HEAD + "pass 4 9 9;pass 3 9 9;pass 2 9 9;pass 1 9 9;");
        y.move(0, 0, 9, 0);
        Check.run(y, "repeat 20 (resend 0 0; resend 0 1;);");
        Check.run(y, "repeat 20 (resend 0 2; resend 0 3;);");
        Check.same("letterCount()", 80, y.letterCount());
        Check.same("four further letters", 3, y.fastestPass(1));
        Check.same("behind too many", NONE, y.fastestPass(0));
    }

    private static void forecastsChangeNothing() {
        MulePostBishops x = Games.overtaking();
        x.resend(2, 1);
        x.writeMoves(1);
        x.save(0);
        String before = picture(x);
        x.arrivalDay(4);
        x.daysUntilTurn(0);
        x.daysUntilTurn(1);
        x.daysUntilEqual();
        x.fastestPass(0);
        x.fastestPass(1);
        Check.same("the picture of the game", before, picture(x));
        Check.same("undoCount()", 7, x.undoCount());
        Check.same("outputByte(0)", (int) '0', x.outputByte(0));
        Check.same("restore(0)", 4, x.restore(0));
        Check.same("the picture of the slot", before, picture(x));
    }

    private static String picture(MulePostBishops x) {
        StringBuilder text = new StringBuilder();
        text.append(x.day()).append(' ').append(x.letterCount()).append(' ').append(x.duplicateCount());
        for (int p = 0; p < 2; p++) {
            text.append(' ').append(x.moveCount(p)).append(' ').append(x.storedMoves(p)).append(' ').append(x.longestWait(p));
            for (int pass = 0; pass < x.passCount(); pass++) {
                text.append(' ').append(x.mules(pass, p)).append(' ').append(x.queueLength(pass, p));
            }
        }
        for (int i = 0; i < x.letterCount(); i++) {
            text.append(' ').append(x.letterState(i));
        }
        return text.toString();
    }
}
