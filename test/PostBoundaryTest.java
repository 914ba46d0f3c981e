/** Each sentence about letters, passes, waiting times and forecasts that names a boundary, with a test of its own (24 to 45). */
public final class PostBoundaryTest {
    private static final int NONE = MulePostBishops.NONE;
    private static final int WAITING = MulePostBishops.WAITING;
    private static final int UNDER_WAY = MulePostBishops.UNDER_WAY;
    private static final int ARRIVED = MulePostBishops.ARRIVED;
    private static final String HEAD = "game 8 60;bishop 0 0 0;bishop 1 7 0;";

    public static void main(String[] args) {
        eightyLetters();
        lettersOfTheFullPost();
        promisesAreKnown();
        duplicates();
        expectedMoves();
        numberOfPasses();
        shortestAndLongestWay();
        monthsGoRound();
        monthOfDeparture();
        closedAtDepthNine();
        closedWhileUnderWay();
        queuesAndMules();
        muleThatComesBack();
        awaitedLetters();
        noStatistics();
        waitsOfNoDay();
        fourHundredDays();
        beyondDay9999();
        forecastsOfToday();
        fastestOfEqualPasses();
        Check.end();
    }

    // ---- letters

    /** Player 0's turn on day 4, with as many letters as are asked for; none of them is on pass 0. */
    private static MulePostBishops letters(int count) {
        MulePostBishops x = Check.start(Games.TWO_WALKERS);
        x.move(0, 0, 9, 1);
        x.advance(2);
        x.move(1, 56, 49, 1);
        x.advance(2);
        for (int i = 0; i < 4 && x.letterCount() < count; i++) {
            int more = Math.min(20, count - x.letterCount());
            Check.same("copies", more, Check.run(x, "repeat " + more + "(resend 0 1;);"));
        }
        return x;
    }

    private static void eightyLetters() {
        Check.about("Letters are numbered from 0 in the order in which they are posted, at most 80 letters exist.");
        MulePostBishops x = letters(79);
        Check.noSuchThing("letter 79 before it is posted", () -> x.writer(79));
        Check.same("letter 79", 79, x.resend(1, 0));
        noMoreLetters(x);
        MulePostBishops y = letters(79);
        Check.same("move 3 as the 80th letter", 3, y.move(0, 9, 18, 0));
        noMoreLetters(y);
        MulePostBishops z = letters(79);
        Check.same("promise 4 as the 80th letter", 4, z.promise(1, 0, 9, 18, 49, 42));
        noMoreLetters(z);
        z.undo();
        Check.same("79 letters again", 79, z.letterCount());
        Check.same("move 3 as the 80th letter", 3, z.move(0, 9, 18, 0));
        noMoreLetters(z);
        MulePostBishops w = letters(79);
        Check.same("a script that posts a copy", 2, Check.run(w, "days 1;resend 78 0;resend 79 0;days 1;"));
        noMoreLetters(w);
        MulePostBishops v = letters(79);
        Check.same("a script that posts a move", 1, Check.run(v, "move 0 9 18 0;promise 0 0 49 42 18 27;"));
        noMoreLetters(v);
        MulePostBishops u = letters(79);
        Check.same("a script that posts a promise", 1, Check.run(u, "promise 1 0 9 18 49 42;move 0 9 18 0;"));
        noMoreLetters(u);
    }

    private static void noMoreLetters(MulePostBishops x) {
        Check.same("letterCount()", 80, x.letterCount());
        Check.same("the state of the 80th letter", WAITING, x.letterState(79));
        Check.wrongState("an 81st letter", () -> x.resend(79, 0));
        Check.wrongState("an 81st letter", () -> x.move(0, 9, 18, 0));
        Check.wrongState("an 81st letter", () -> x.promise(1, 0, 9, 18, 49, 42));
        Check.wrongState("an 81st letter", () -> x.promise(0, 0, 49, 42, 18, 27));
        Check.same("letterCount()", 80, x.letterCount());
        Check.noSuchThing("writer(80)", () -> x.writer(80));
        Check.noSuchThing("arrivalDay(80)", () -> x.arrivalDay(80));
    }

    private static void lettersOfTheFullPost() {
        Check.about("Returns the number of letters that were posted. @return 0 to 80");
        Check.same("at first", 0, new MulePostBishops().letterCount());
        MulePostBishops x = Games.fullPost();
        Check.same("all", 80, x.letterCount());
        for (int letter : new int[] {0, 1, 78, 79}) {
            Check.same("letter " + letter, "0 1 false 0",
                    x.writer(letter) + " " + x.letterNumber(letter) + " " + x.isPromise(letter) + " " + x.letterState(letter));
        }
        Check.about("Counts the letters in a queue.");
        Check.same("the empty queue", 0, x.queueLength(0, 0));
        Check.same("the longest queue", 80, x.queueLength(1, 0));
        x.advance(1);
        Check.same("nine have left", 71, x.queueLength(1, 0));
        Check.same("the ninth and the tenth letter", UNDER_WAY + " " + WAITING, x.letterState(8) + " " + x.letterState(9));
        // nine more leave each day, the last eight on day 9
        for (int day = 2; day <= 10; day++) {
            Check.run(x, "repeat 20(mule 1 0;);");
            Check.same("arrivals on day " + day, day < 10 ? 9 : 8, x.advance(1));
        }
        Check.same("the last letter", "10 " + ARRIVED, x.arrivalDay(79) + " " + x.letterState(79));
        Check.same("the queue", 0, x.queueLength(1, 0));
        Check.same("all but the first are duplicates", 79, x.duplicateCount());
        Check.same("the mules of all letters", 89, x.mules(1, 1));
        Check.same("contradictions()", 0, x.contradictions());
    }

    private static void promisesAreKnown() {
        Check.about("The writer remembers the promise at once, and the addressee knows it as soon as a letter with it arrives.");
        MulePostBishops x = Check.start(Games.TWO_WALKERS);
        x.promise(1, 0, 0, 9, 56, 49);
        Check.wrongState("the same number at once", () -> x.promise(1, 0, 0, 18, 56, 49));
        x.move(0, 0, 9, 1);
        x.advance(1);
        Check.same("the day before the move arrives", "10", "" + x.moveCount(0) + x.moveCount(1));
        x.advance(1);
        Check.same("when the move arrives", "12", "" + x.moveCount(0) + x.moveCount(1));
        x.advance(7);
        Check.same("the day before the promise arrives", "12", "" + x.moveCount(0) + x.moveCount(1));
        x.advance(1);
        Check.same("when the promise arrives", "22", "" + x.moveCount(0) + x.moveCount(1));
        MulePostBishops y = Check.start(Games.TWO_WALKERS);
        y.promise(1, 0, 0, 9, 56, 49);
        y.resend(0, 1);
        y.advance(2);
        y.move(0, 0, 9, 0);
        Check.same("the copy has made it known", "20", "" + y.moveCount(0) + y.moveCount(1));
    }

    private static void duplicates() {
        Check.about("When a move letter arrives, it is a duplicate if its move was already applied to the addressee's board, or "
                + "if the addressee already stores a move with this number.");
        MulePostBishops x = Games.overtaking();
        Check.same("first letters", 0, x.duplicateCount());
        x.resend(0, 1);
        x.advance(2);
        Check.same("of an applied move", 1, x.duplicateCount());
        x.resend(3, 1);
        x.advance(2);
        Check.same("of a stored move", 2, x.duplicateCount());
        x.advance(4);
        Check.same("move 2 was neither applied nor stored", "24", "" + x.duplicateCount() + x.moveCount(0));
        MulePostBishops y = Check.start(Games.TWO_WALKERS);
        y.move(0, 0, 9, 1);
        y.resend(0, 1);
        Check.same("two letters of one day", 2, y.advance(2));
        Check.same("two letters of one day", 1, y.duplicateCount());
        Check.about("When a promise arrives, it is a duplicate if the addressee already knows a promise with this number.");
        MulePostBishops z = Check.start(Games.TWO_WALKERS);
        z.promise(1, 1, 0, 9, 56, 49);
        z.advance(2);
        Check.same("a first promise", 0, z.duplicateCount());
        z.resend(0, 1);
        z.resend(0, 1);
        z.advance(2);
        Check.same("two copies", 2, z.duplicateCount());
        // a move letter with the number of a known promise is none
        MulePostBishops w = Check.start(Games.TWO_WALKERS);
        w.promise(1, 1, 0, 18, 56, 49);
        w.move(0, 0, 9, 1);
        w.advance(2);
        w.move(1, 56, 49, 1);
        w.advance(2);
        Check.same("move 2 besides promise 2", "02", "" + w.duplicateCount() + w.moveCount(0));
    }

    private static void expectedMoves() {
        Check.about("A promise whose expected move was not played has no effect.");
        int[][] played = {{0, 9}, {2, 9}, {0, 18}, {2, 11}};
        for (int i = 0; i < played.length; i++) {
            MulePostBishops x = Check.start("game 8 60;bishop 0 0 0;bishop 0 0 2;bishop 1 7 0;pass 1 9 9;");
            x.promise(1, 0, 0, 9, 56, 49);
            x.advance(2);
            x.move(0, played[i][0], played[i][1], 0);
            x.advance(2);
            int due = i == 0 ? 2 : 1;
            Check.same("after " + played[i][0] + "-" + played[i][1], "" + due + due, "" + x.moveCount(0) + x.moveCount(1));
            Check.same("keptPromises", "0" + (due - 1), "" + x.keptPromises(0) + x.keptPromises(1));
            Check.same("the turn", "" + (due == 2) + (due == 1), "" + x.isTurn(0) + x.isTurn(1));
        }
    }

    // ---- passes

    private static void numberOfPasses() {
        Check.about("There are 1 to 4 passes, numbered from 0.");
        for (int n = 1; n <= 4; n++) {
            int count = n;
            StringBuilder text = new StringBuilder(HEAD);
            for (int pass = 0; pass < n; pass++) {
                text.append("pass ").append(pass + 1).append(" 1 ").append(pass + 5).append(";");
            }
            MulePostBishops x = Check.start(text + "snow " + (n - 1) + " 11 7;");
            Check.same("passCount()", n, x.passCount());
            for (int pass = 0; pass < n; pass++) {
                Check.same("pass " + pass, (pass + 1) + " 1 " + (pass + 5) + " 0 0", x.travelDays(pass) + " " + x.mules(pass, 0)
                        + " " + x.mules(pass, 1) + " " + x.queueLength(pass, 0) + " " + x.queueLength(pass, 1));
                Check.same("snow", pass == n - 1 ? 7 : 0, x.snowDepth(pass, 11));
            }
            for (int wrong : new int[] {-1, n}) {
                Check.noSuchThing("snowDepth", () -> x.snowDepth(wrong, 0));
                Check.noSuchThing("travelDays", () -> x.travelDays(wrong));
                Check.noSuchThing("mules", () -> x.mules(wrong, 0));
                Check.noSuchThing("queueLength", () -> x.queueLength(wrong, 0));
                Check.noSuchThing("move", () -> x.move(0, 0, 9, wrong));
                Check.noSuchThing("promise", () -> x.promise(1, wrong, 0, 9, 56, 49));
                Check.noSuchThing("addMule", () -> x.addMule(wrong, 0));
                Check.noSuchThing("setSnow", () -> x.setSnow(wrong, 0, 0));
            }
            x.move(0, 0, 9, n - 1);
            Check.noSuchThing("resend", () -> x.resend(0, count));
            Check.same("over the last pass", n + 1, x.arrivalDay(0));
            x.advance(n + 1);
            Check.same("its mules", "0 " + (n + 5), x.mules(n - 1, 0) + " " + x.mules(n - 1, 1));
        }
    }

    private static void shortestAndLongestWay() {
        Check.about("Returns the base days plus the snow depth of the present month, NONE if the pass is closed now.");
        MulePostBishops x = Check.start(HEAD + "pass 1 9 9;pass 9 9 9;pass 9 9 9;snow 1 0 8;snow 2 0 9;");
        Check.same("the shortest way", 1, x.travelDays(0));
        Check.same("the longest way", 17, x.travelDays(1));
        Check.same("a closed pass", NONE, x.travelDays(2));
        Check.about("If they are 0 then, the letter arrives, and its mule joins the stable on the other side.");
        x.move(0, 0, 9, 0);
        x.resend(0, 1);
        Check.same("forecasts", "2 18", x.arrivalDay(0) + " " + x.arrivalDay(1));
        Check.same("day 1", 0, x.advance(1));
        Check.same("day 2", 1, x.advance(1));
        Check.same("mules of day 2", "8 10", x.mules(0, 0) + " " + x.mules(0, 1));
        Check.same("day 17", 0, x.advance(15));
        Check.same("mules of day 17", "8 9", x.mules(1, 0) + " " + x.mules(1, 1));
        Check.same("day 18", 1, x.advance(1));
        Check.same("mules of day 18", "8 10", x.mules(1, 0) + " " + x.mules(1, 1));
    }

    private static void monthsGoRound() {
        Check.about("A month has 30 days; the month of a day is day / 30 modulo 12, with integer division.");
        StringBuilder snow = new StringBuilder();
        for (int month = 0; month < 12; month++) {
            snow.append("snow 0 ").append(month).append(' ').append(month % 9).append(';');
        }
        MulePostBishops x = Check.start(HEAD + "pass 1 9 9;" + snow);
        int[][] daysAndMonths = {{0, 0}, {1, 0}, {29, 0}, {30, 1}, {59, 1}, {60, 2}, {329, 10}, {330, 11}, {359, 11}, {360, 0},
            {389, 0}, {390, 1}, {719, 11}, {720, 0}, {9989, 8}, {9990, 9}, {9999, 9}};
        for (int[] due : daysAndMonths) {
            Games.passUntil(x, due[0]);
            Check.same("day()", due[0], x.day());
            Check.same("month() on day " + due[0], due[1], x.month());
            Check.same("travelDays(0) on day " + due[0], 1 + due[1] % 9, x.travelDays(0));
        }
    }

    private static void monthOfDeparture() {
        Check.about("Its remaining days are the base days plus the snow depth of the present month.");
        MulePostBishops x = Check.start(HEAD + "pass 1 9 9;snow 0 0 3;snow 0 1 5;snow 0 11 7;");
        Games.passUntil(x, 28);
        x.move(0, 0, 9, 0);
        // it leaves on the last day of month 0
        Check.same("posted on day 28", 33, x.arrivalDay(0));
        x.advance(1);
        x.resend(0, 0);
        // it leaves on the first day of month 1
        Check.same("posted on day 29", 36, x.arrivalDay(1));
        Games.passUntil(x, 358);
        x.resend(0, 0);
        Check.same("posted on day 358", 367, x.arrivalDay(2));
        x.advance(1);
        x.resend(0, 0);
        Check.same("posted on day 359, and in month 0 again", 364, x.arrivalDay(3));
        x.advance(4);
        Check.same("day 363", UNDER_WAY + " " + UNDER_WAY, x.letterState(2) + " " + x.letterState(3));
        x.advance(1);
        Check.same("day 364", UNDER_WAY + " " + ARRIVED, x.letterState(2) + " " + x.letterState(3));
        x.advance(3);
        Check.same("arrival days", "33 36 367 364",
                x.arrivalDay(0) + " " + x.arrivalDay(1) + " " + x.arrivalDay(2) + " " + x.arrivalDay(3));
    }

    private static void closedAtDepthNine() {
        Check.about("A pass is closed in a month in which its snow depth is 9.");
        for (int depth = 8; depth <= 9; depth++) {
            MulePostBishops x = Check.start(HEAD + "pass 2 9 9;snow 0 0 " + depth + ";");
            Check.same("travelDays with " + depth, depth == 9 ? NONE : 10, x.travelDays(0));
            x.move(0, 0, 9, 0);
            // on day 1, or not before day 30
            Check.same("arrivalDay with " + depth, depth == 9 ? 32 : 11, x.arrivalDay(0));
            x.advance(1);
            Check.same("letterState with " + depth, depth == 9 ? WAITING : UNDER_WAY, x.letterState(0));
            Games.passUntil(x, 29);
            Check.same("letterState on day 29 with " + depth, depth == 9 ? WAITING : ARRIVED, x.letterState(0));
            x.advance(1);
            Check.same("letterState on day 30 with " + depth, depth == 9 ? UNDER_WAY : ARRIVED, x.letterState(0));
            Check.same("travelDays on day 30", 2, x.travelDays(0));
        }
    }

    private static void closedWhileUnderWay() {
        Check.about("If its pass is not closed, its remaining days decrease by 1.");
        for (int way = 1; way <= 2; way++) {
            // posted on the days 26 to 30; the pass is closed on the days 30 to 59
            int[] due = way == 1 ? new int[] {28, 29, 60, 61, 61} : new int[] {29, 60, 61, 62, 62};
            MulePostBishops x = Check.start(HEAD + "pass " + way + " 9 9;snow 0 1 9;");
            Games.passUntil(x, 26);
            x.move(0, 0, 9, 0);
            for (int i = 1; i < 5; i++) {
                x.advance(1);
                x.resend(0, 0);
            }
            for (int i = 0; i < 5; i++) {
                Check.same("the forecast for letter " + i, due[i], x.arrivalDay(i));
            }
            for (int day = 31; day <= 62; day++) {
                x.advance(1);
                for (int i = 0; i < 5; i++) {
                    Check.same("letter " + i + " on day " + day, due[i] <= day, x.letterState(i) == ARRIVED);
                }
            }
        }
        // the deepest snow that leaves a pass open
        MulePostBishops y = Check.start(HEAD + "pass 1 9 9;snow 0 1 8;");
        Games.passUntil(y, 28);
        y.move(0, 0, 9, 0);
        Check.same("with depth 8", 30, y.arrivalDay(0));
        // closed from month 1 to month 11
        StringBuilder snow = new StringBuilder();
        for (int month = 1; month < 12; month++) {
            snow.append("snow 0 ").append(month).append(" 9;");
        }
        MulePostBishops z = Check.start(HEAD + "pass 1 9 9;" + snow);
        Games.passUntil(z, 28);
        z.move(0, 0, 9, 0);
        Check.same("eleven closed months", 360, z.arrivalDay(0));
        Games.passUntil(z, 359);
        Check.same("on day 359", UNDER_WAY, z.letterState(0));
        Check.same("on day 360", 1, z.advance(1));
    }

    private static void queuesAndMules() {
        Check.about("while the pass is not closed, the queue is not empty and the stable has a mule, the first letter of the queue "
                + "leaves with one mule.");
        for (int mules = 0; mules <= 4; mules++) {
            MulePostBishops x = Check.start(HEAD + "pass 9 " + mules + " 0;");
            x.move(0, 0, 9, 0);
            x.resend(0, 0);
            x.resend(0, 0);
            Check.same("before the day", mules + " 3", x.mules(0, 0) + " " + x.queueLength(0, 0));
            x.advance(1);
            int left = Math.min(mules, 3);
            Check.same("mules and queue after a day", (mules - left) + " " + (3 - left), x.mules(0, 0) + " " + x.queueLength(0, 0));
            for (int letter = 0; letter < 3; letter++) {
                Check.same("letter " + letter + " with " + mules, letter < left ? UNDER_WAY : WAITING, x.letterState(letter));
                Check.same("its arrival", letter < left ? 10 : NONE, x.arrivalDay(letter));
            }
        }
    }

    private static void muleThatComesBack() {
        Check.about("If they are 0 then, the letter arrives, and its mule joins the stable on the other side.");
        MulePostBishops x = Check.start(HEAD + "pass 2 1 0;");
        x.move(0, 0, 9, 0);
        x.resend(0, 0);
        x.promise(1, 0, 0, 18, 56, 49);
        // the only mule: there from day 1 to 3, back from 3 to 5, and there again from 5 to 7
        Check.same("forecasts", "3 7 5", x.arrivalDay(0) + " " + x.arrivalDay(1) + " " + x.arrivalDay(2));
        String[] due = {"100", "100", "201", "201", "212", "212", "222"};
        for (int day = 1; day <= 7; day++) {
            x.advance(1);
            Check.same("states on day " + day, due[day - 1], "" + x.letterState(0) + x.letterState(1) + x.letterState(2));
        }
        Check.same("the stables", "01", "" + x.mules(0, 0) + x.mules(0, 1));
    }

    private static void awaitedLetters() {
        Check.about("of the letters that are addressed to the player, have not arrived, and have the next move number of the "
                + "player's board, the one with the lowest number.");
        MulePostBishops x = Check.start(Games.TWO_WALKERS);
        Check.same("no letter", NONE + " " + NONE, x.awaitedLetter(0) + " " + x.awaitedLetter(1));
        x.move(0, 0, 9, 0);
        x.resend(0, 1);
        Check.same("the lowest of two", 0, x.awaitedLetter(1));
        Check.same("none of the own letters", NONE, x.awaitedLetter(0));
        x.advance(2);
        Check.same("number 1 is applied", NONE, x.awaitedLetter(1));
        // the promise has arrived without effect, and its copy has not
        MulePostBishops y = Check.start(Games.TWO_WALKERS);
        y.promise(1, 1, 0, 18, 56, 49);
        y.resend(0, 0);
        y.move(0, 0, 9, 1);
        Check.same("before the promise arrives", "0 3", y.awaitedLetter(0) + " " + y.reasonToWait(0));
        y.advance(2);
        Check.same("of a letter and its copy", "2 1", y.letterState(0) + " " + y.letterState(1));
        Check.same("the one that has not arrived", "1 4", y.awaitedLetter(0) + " " + y.reasonToWait(0));
        y.advance(8);
        Check.same("both have arrived", NONE + " 2", y.awaitedLetter(0) + " " + y.reasonToWait(0));
        // move 4 is under way, but number 2 is awaited
        MulePostBishops z = Games.overtaking();
        z.undo();
        Check.same("not the letter of move 4", "2 4 2", z.awaitedLetter(0) + " " + z.letterNumber(3) + " " + z.letterNumber(2));
    }

    // ---- statistics

    private static void noStatistics() {
        MulePostBishops x = Check.start(Games.TWO_WALKERS);
        x.move(0, 0, 9, 0);
        x.advance(9);
        for (int p = 0; p < 2; p++) {
            Check.about("Returns the number of days, 0 if there was no waiting time.");
            Check.same("longestWait(" + p + ")", 0, x.longestWait(p));
            Check.about("Returns the sum of the waiting times divided by their number, both converted to double; 0.0 if there was none.");
            Check.same("meanWait(" + p + ")", 0.0, x.meanWait(p));
        }
        Check.about("Returns the sum for all letters that arrived divided by the number of these letters, both converted to float; "
                + "0.0f if no letter arrived.");
        Check.same("meanTravel() on day 9", 0.0f, x.meanTravel());
        x.advance(1);
        Check.same("meanTravel() on day 10", 10.0f, x.meanTravel());
        Check.about("When a move of the other player is applied to the board of a player who has already made a move,");
        Check.same("a move before the first own one", "0 0.0", x.longestWait(1) + " " + x.meanWait(1));
    }

    private static void waitsOfNoDay() {
        Check.about("the waiting time is the present day minus the day on which the latest own move was applied to this board.");
        MulePostBishops x = Check.start(Games.TWO_WALKERS);
        x.promise(1, 1, 0, 9, 56, 49);
        x.advance(2);
        x.move(0, 0, 9, 1);
        Check.same("the known reply is applied at once", "2 0 0.0", x.moveCount(0) + " " + x.longestWait(0) + " " + x.meanWait(0));
        x.move(0, 9, 18, 1);
        x.advance(2);
        // move 1, the own reply, move 3: all of them on day 4
        Check.same("three moves on one day", "3 0 0.0", x.moveCount(1) + " " + x.longestWait(1) + " " + x.meanWait(1));
        x.move(1, 49, 42, 1);
        x.advance(2);
        Check.same("no day and four days", "4 2.0", x.longestWait(0) + " " + x.meanWait(0));
        x.move(0, 18, 27, 1);
        x.advance(2);
        Check.same("no day and four days", "4 2.0", x.longestWait(1) + " " + x.meanWait(1));
    }

    // ---- forecasts

    /**
     * A pass of 17 days that is open in month 1 alone, with one mule: letter 2 goes there from day 30 to 47, letter 3 comes
     * back from day 47 to 394, and the next one goes there from day 394 to 411. The other pass is closed.
     */
    private static MulePostBishops slowMule(int day, boolean withMove) {
        StringBuilder snow = new StringBuilder("snow 0 1 8;");
        StringBuilder closing = new StringBuilder();
        for (int month = 0; month < 12; month++) {
            snow.append(month == 1 ? "" : "snow 0 " + month + " 9;");
            closing.append("snow 1 ").append(month).append(" 9;");
        }
        MulePostBishops x = Check.start(HEAD + "pass 9 1 0;pass 1 1 1;" + snow);
        x.move(0, 0, 9, 1);
        x.advance(2);
        x.move(1, 56, 49, 1);
        x.advance(2);
        Check.same("closed months", 12, Check.run(x, closing.toString()));
        x.resend(0, 0);
        x.resend(1, 0);
        if (withMove) {
            x.move(0, 9, 18, 0);
        }
        Games.passUntil(x, day);
        return x;
    }

    private static void fourHundredDays() {
        for (int day = 9; day <= 12; day++) {
            boolean near = 411 - day <= 400;
            MulePostBishops x = slowMule(day, true);
            Check.about("They tell what happens if only days pass, also beyond day 9999, and look 400 days ahead.");
            Check.same("the letter before", "47 394", x.arrivalDay(2) + " " + x.arrivalDay(3));
            Check.about("Returns the day on which it arrived or will arrive, NONE if it will not arrive within 400 days.");
            Check.same("arrivalDay(4) on day " + day, near ? 411 : NONE, x.arrivalDay(4));
            Check.about("Returns the least number of days, 0 if it is the player's turn now, NONE if it will not be within 400 days.");
            Check.same("daysUntilTurn(1) on day " + day, near ? 411 - day : NONE, x.daysUntilTurn(1));
            Check.same("daysUntilTurn(0) on day " + day, NONE, x.daysUntilTurn(0));
            Check.about("Returns the least number of days, 0 if they agree now, NONE if they will not within 400 days.");
            Check.same("daysUntilEqual() on day " + day, near ? 411 - day : NONE, x.daysUntilEqual());
            Check.about("NONE if the letter would not arrive within 400 days over any pass.");
            Check.same("fastestPass(0) on day " + day, near ? 0 : NONE, slowMule(day, false).fastestPass(0));
        }
        MulePostBishops y = slowMule(400, true);
        Games.passUntil(y, 410);
        Check.same("the day before", "411 1 1 1", y.arrivalDay(4) + " " + y.daysUntilTurn(1) + " " + y.daysUntilEqual() + " "
                + y.letterState(4));
        Check.same("the day", 1, y.advance(1));
        Check.same("the day", "411 0 0 2", y.arrivalDay(4) + " " + y.daysUntilTurn(1) + " " + y.daysUntilEqual() + " "
                + y.letterState(4));
    }

    private static void beyondDay9999() {
        Check.about("They tell what happens if only days pass, also beyond day 9999, and look 400 days ahead.");
        // day 9999 is in month 9, and day 10020 the first one of month 10
        MulePostBishops x = Check.start(HEAD + "pass 3 9 9;pass 7 9 9;snow 0 9 9;snow 1 9 9;snow 0 10 2;");
        Games.passUntil(x, 9999);
        x.move(0, 0, 9, 0);
        x.resend(0, 1);
        Check.same("arrival days", "10025 10027", x.arrivalDay(0) + " " + x.arrivalDay(1));
        Check.same("daysUntilTurn(1)", 26, x.daysUntilTurn(1));
        Check.same("daysUntilEqual()", 26, x.daysUntilEqual());
        Check.same("fastestPass(1)", 0, x.fastestPass(1));
        x.setSnow(0, 10, 9);
        // open in month 11, from day 10050 on
        Check.same("arrival days", "10053 10027", x.arrivalDay(0) + " " + x.arrivalDay(1));
        Check.same("fastestPass(1)", 1, x.fastestPass(1));
        Check.same("the day stays", "9999 9", x.day() + " " + x.month());
        Check.wrongState("a day more", () -> x.advance(1));
    }

    private static void forecastsOfToday() {
        MulePostBishops x = Check.start(Games.TWO_WALKERS);
        Check.about("Returns the least number of days, 0 if it is the player's turn now, NONE if it will not be within 400 days.");
        Check.same("its turn", 0, x.daysUntilTurn(0));
        Check.same("without a letter", NONE, x.daysUntilTurn(1));
        Check.about("Returns the least number of days, 0 if they agree now, NONE if they will not within 400 days.");
        Check.same("before the first move", 0, x.daysUntilEqual());
        x.move(0, 0, 9, 1);
        Check.same("after it", 2, x.daysUntilEqual());
        x.advance(2);
        Check.same("after its arrival", "0 0", x.daysUntilEqual() + " " + x.daysUntilTurn(1));
        Check.about("Returns the day on which it arrived or will arrive, NONE if it will not arrive within 400 days.");
        Games.passUntil(x, 9999);
        Check.same("long ago", 2, x.arrivalDay(0));
    }

    private static void fastestOfEqualPasses() {
        Check.about("Returns the pass with the earliest arrival, of several such passes the one with the lowest number,");
        MulePostBishops x = Check.start(HEAD + "pass 3 9 9;pass 3 9 9;pass 3 9 9;pass 3 9 9;");
        for (int pass = 0; pass < 4; pass++) {
            Check.same("of equal passes from " + pass, pass + " " + pass, x.fastestPass(0) + " " + x.fastestPass(1));
            x.setSnow(pass, 0, 1);
        }
        Check.same("of four equal passes", "0 0", x.fastestPass(0) + " " + x.fastestPass(1));
        x.setSnow(3, 0, 0);
        Check.same("the last one", "3 3", x.fastestPass(0) + " " + x.fastestPass(1));
        x.setSnow(3, 0, 9);
        x.setSnow(2, 0, 0);
        Check.same("the one before", "2 2", x.fastestPass(0) + " " + x.fastestPass(1));
        MulePostBishops y = Check.start(HEAD + "pass 3 0 9;pass 3 9 0;");
        Check.same("the one with mules", "1 0", y.fastestPass(0) + " " + y.fastestPass(1));
        MulePostBishops z = Check.start(HEAD + "pass 3 0 0;pass 3 0 0;");
        Check.same("none with mules", NONE + " " + NONE, z.fastestPass(0) + " " + z.fastestPass(1));
    }
}
