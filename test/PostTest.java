/** Promises 24 to 35: the post. */
public final class PostTest {
    private static final int NONE = MulePostBishops.NONE;
    private static final int WAITING = MulePostBishops.WAITING;
    private static final int UNDER_WAY = MulePostBishops.UNDER_WAY;
    private static final int ARRIVED = MulePostBishops.ARRIVED;

    public static void main(String[] args) {
        promise24PassCount();
        promise25SnowDepth();
        promise26TravelDays();
        promises27And28MulesAndQueues();
        promises27And28Closed();
        promise29LetterCount();
        promises30To32Letters();
        promise33LetterState();
        promise34AwaitedLetter();
        promise35ReasonToWait();
        Check.end();
    }

    private static void promise24PassCount() {
        Check.same("one", 1, Check.start("game 4 9;pass 1 1 1;").passCount());
        Check.same("four", 4, Check.start("game 4 9;pass 1 1 1;pass 1 1 1;pass 1 1 1;pass 1 1 1;").passCount());
    }

    private static void promise25SnowDepth() {
        MulePostBishops x = Check.start("game 4 9;pass 1 1 1;pass 1 1 1;snow 0 11 9;snow 1 0 3;");
        Check.same("depths", "9030", "" + x.snowDepth(0, 11) + x.snowDepth(0, 0) + x.snowDepth(1, 0) + x.snowDepth(1, 11));
        Check.noSuchThing("pass 2", () -> x.snowDepth(2, 0));
        Check.noSuchThing("pass -1", () -> x.snowDepth(-1, 0));
        Check.noSuchThing("month 12", () -> x.snowDepth(0, 12));
        Check.noSuchThing("month -1", () -> x.snowDepth(1, -1));
    }

    private static void promise26TravelDays() {
        MulePostBishops x = new MulePostBishops();
        Check.same("in month 0", "75", "" + x.travelDays(0) + x.travelDays(1));
        x.advance(30);
        Check.same("in month 1", "-17", "" + x.travelDays(0) + x.travelDays(1));
        x.advance(30);
        Check.same("in month 2", "35", "" + x.travelDays(0) + x.travelDays(1));
        x.setSnow(1, 2, 8);
        Check.same("with depth 8", 13, x.travelDays(1));
        Check.noSuchThing("pass 2", () -> x.travelDays(2));
        Check.noSuchThing("pass -1", () -> x.travelDays(-1));
    }

    private static String stables(MulePostBishops x, int pass) {
        return "mules " + x.mules(pass, 0) + " " + x.mules(pass, 1) + " queues " + x.queueLength(pass, 0) + " "
                + x.queueLength(pass, 1);
    }

    private static void promises27And28MulesAndQueues() {
        MulePostBishops x = Check.start("game 8 60;bishop 0 0 0;bishop 1 7 0;pass 2 1 0;");
        Check.same("at first", "mules 1 0 queues 0 0", stables(x, 0));
        x.move(0, 0, 9, 0);
        x.resend(0, 0);
        Check.same("day 0", "mules 1 0 queues 2 0", stables(x, 0));
        x.advance(1);
        Check.same("day 1", "mules 0 0 queues 1 0", stables(x, 0));
        x.advance(1);
        Check.same("day 2", "mules 0 0 queues 1 0", stables(x, 0));
        Check.same("arrivals", 1, x.advance(1));
        Check.same("day 3", "mules 0 1 queues 1 0", stables(x, 0));
        // the reply leaves on day 4 with the mule that came, and the copy on day 6 with the one that comes back
        x.move(1, 56, 49, 0);
        Check.same("the reply waits", "mules 0 1 queues 1 1", stables(x, 0));
        x.advance(1);
        Check.same("day 4", "mules 0 0 queues 1 0", stables(x, 0));
        x.advance(2);
        Check.same("day 6", "mules 0 0 queues 0 0", stables(x, 0));
        Check.same("states", "212", "" + x.letterState(0) + x.letterState(1) + x.letterState(2));
        x.advance(2);
        Check.same("day 8", "mules 0 1 queues 0 0", stables(x, 0));
        Check.noSuchThing("mules(1, 0)", () -> x.mules(1, 0));
        Check.noSuchThing("mules(-1, 0)", () -> x.mules(-1, 0));
        Check.noSuchThing("mules(0, 2)", () -> x.mules(0, 2));
        Check.noSuchThing("mules(0, -1)", () -> x.mules(0, -1));
        Check.noSuchThing("queueLength(1, 0)", () -> x.queueLength(1, 0));
        Check.noSuchThing("queueLength(-1, 0)", () -> x.queueLength(-1, 0));
        Check.noSuchThing("queueLength(0, 2)", () -> x.queueLength(0, 2));
        Check.noSuchThing("queueLength(0, -1)", () -> x.queueLength(0, -1));
    }

    private static void promises27And28Closed() {
        // a letter under way stands still on a closed pass, and none leaves there
        MulePostBishops x = Check.start("game 8 60;bishop 0 0 0;bishop 1 7 0;pass 3 2 0;snow 0 1 9;");
        x.advance(27);
        x.move(0, 0, 9, 0);
        x.advance(2);
        x.resend(0, 0);
        Check.same("day 29", "mules 1 0 queues 1 0", stables(x, 0));
        Check.same("nothing arrives in month 1", 0, x.advance(30));
        Check.same("day 59", "mules 1 0 queues 1 0", stables(x, 0));
        // left on day 28 for three days, one of which had passed
        Check.same("nothing on day 60", 0, x.advance(1));
        Check.same("day 60", "mules 0 0 queues 0 0", stables(x, 0));
        Check.same("day 61", 1, x.advance(1));
        Check.same("the copy left on day 60", 1, x.advance(2));
        Check.same("day 63", 63, x.arrivalDay(1));
        Check.same("day 63", "mules 0 2 queues 0 0", stables(x, 0));
    }

    private static void promise29LetterCount() {
        MulePostBishops x = Games.overtaking();
        Check.same("letterCount()", 4, x.letterCount());
        x.resend(3, 0);
        Check.same("letterCount()", 5, x.letterCount());
        Check.same("letterCount() of a full post", 80, Games.fullPost().letterCount());
    }

    private static void promises30To32Letters() {
        MulePostBishops x = Games.overtaking();
        x.resend(1, 0);
        x.resend(2, 0);
        String[] due = {"0 1 false", "0 3 true", "1 2 false", "1 4 false", "0 3 true", "1 2 false"};
        for (int i = 0; i < due.length; i++) {
            Check.same("letter " + i, due[i], x.writer(i) + " " + x.letterNumber(i) + " " + x.isPromise(i));
        }
        int[] absent = {-1, 6, 79, 80, 83, 84, Integer.MAX_VALUE, Integer.MIN_VALUE};
        for (int letter : absent) {
            Check.noSuchThing("writer(" + letter + ")", () -> x.writer(letter));
            Check.noSuchThing("letterNumber(" + letter + ")", () -> x.letterNumber(letter));
            Check.noSuchThing("isPromise(" + letter + ")", () -> x.isPromise(letter));
            Check.noSuchThing("letterState(" + letter + ")", () -> x.letterState(letter));
        }
        MulePostBishops y = new MulePostBishops();
        Check.noSuchThing("writer(0)", () -> y.writer(0));
    }

    private static void promise33LetterState() {
        MulePostBishops x = Check.start("game 8 60;bishop 0 0 0;bishop 1 7 0;pass 2 1 0;");
        x.move(0, 0, 9, 0);
        Check.same("day 0", WAITING, x.letterState(0));
        x.advance(1);
        Check.same("day 1", UNDER_WAY, x.letterState(0));
        x.advance(1);
        Check.same("day 2", UNDER_WAY, x.letterState(0));
        x.advance(1);
        Check.same("day 3", ARRIVED, x.letterState(0));
    }

    private static void promise34AwaitedLetter() {
        MulePostBishops x = Games.overtaking();
        Check.same("awaitedLetter(0)", 2, x.awaitedLetter(0));
        Check.same("awaitedLetter(1)", NONE, x.awaitedLetter(1));
        x.resend(2, 1);
        Check.same("the lowest of two", 2, x.awaitedLetter(0));
        x.advance(2);
        // the copy was faster: the next number is 5 now, an own one
        Check.same("after the arrival", NONE, x.awaitedLetter(0));
        Check.same("moveCount(0)", 4, x.moveCount(0));
        x.move(0, 18, 27, 0);
        Check.same("awaitedLetter(1)", 4 + 1, x.awaitedLetter(1));
        // a promise is awaited too, when its number is the next one
        MulePostBishops y = Check.start(Games.TWO_WALKERS);
        y.promise(1, 0, 0, 9, 56, 49);
        y.move(0, 0, 9, 1);
        Check.same("a promised letter", 0, y.awaitedLetter(0));
        Check.same("reason", MulePostBishops.IN_QUEUE, y.reasonToWait(0));
        Check.noSuchThing("player 2", () -> x.awaitedLetter(2));
        Check.noSuchThing("player -1", () -> x.awaitedLetter(-1));
    }

    private static void promise35ReasonToWait() {
        MulePostBishops x = Check.start("game 8 2;bishop 0 0 0;bishop 1 7 0;pass 2 1 1;");
        Check.same("at first", MulePostBishops.MAY_MOVE, x.reasonToWait(0));
        Check.same("at first", MulePostBishops.NOT_POSTED, x.reasonToWait(1));
        x.move(0, 0, 9, 0);
        Check.same("day 0", MulePostBishops.NOT_POSTED, x.reasonToWait(0));
        Check.same("day 0", MulePostBishops.IN_QUEUE, x.reasonToWait(1));
        x.advance(1);
        Check.same("day 1", MulePostBishops.ON_THE_WAY, x.reasonToWait(1));
        x.advance(2);
        Check.same("day 3", MulePostBishops.MAY_MOVE, x.reasonToWait(1));
        x.move(1, 56, 49, 0);
        Check.same("the last move", MulePostBishops.GAME_OVER, x.reasonToWait(1));
        Check.same("the last move", MulePostBishops.IN_QUEUE, x.reasonToWait(0));
        // the copy is under way, but the letter with the lowest number still waits
        MulePostBishops y = Check.start("game 8 2;bishop 0 0 0;bishop 1 7 0;pass 2 0 0;pass 5 1 1;");
        y.move(0, 0, 9, 0);
        y.resend(0, 1);
        y.advance(1);
        Check.same("the first of two", MulePostBishops.IN_QUEUE, y.reasonToWait(1));
        Check.noSuchThing("player 2", () -> x.reasonToWait(2));
        Check.noSuchThing("player -1", () -> x.reasonToWait(-1));
    }
}
