/** The sentences about letters, passes, statistics and forecasts that name no boundary, each with a test of its own (25 to 45). */
public final class PostSentenceTest {
    private static final int NONE = MulePostBishops.NONE;
    private static final int WAITING = MulePostBishops.WAITING;
    private static final int UNDER_WAY = MulePostBishops.UNDER_WAY;
    private static final int ARRIVED = MulePostBishops.ARRIVED;
    private static final int NEVER = Integer.MAX_VALUE;
    private static final String HEAD = "game 8 60;bishop 0 0 0;bishop 1 7 0;";

    /** Makes an object anew, always in the same state. */
    private interface Maker {
        MulePostBishops make();
    }

    public static void main(String[] args) {
        lettersThatOvertake();
        contentOfAMoveLetter();
        contentOfAPromise();
        addressees();
        movesArePosted();
        onlyALetterOfAPromise();
        storedAndKnown();
        asLongAsPossible();
        writtenAndKnownPromises();
        stablesAndQueues();
        endsOfQueues();
        stepsOfADay();
        snowAndTravel();
        whatALetterTells();
        statesOfLetters();
        awaitedLetters();
        reasons();
        orderOfReasons();
        duplicates();
        keptPromises();
        waits();
        travels();
        contradictions();
        forecastsOfLettersAndTurns();
        forecastsOfPasses();
        Check.end();
    }

    private static String made(MulePostBishops x) {
        return x.moveCount(0) + " " + x.moveCount(1);
    }

    private static String states(MulePostBishops x) {
        StringBuilder text = new StringBuilder();
        for (int i = 0; i < x.letterCount(); i++) {
            text.append(x.letterState(i));
        }
        return text.toString();
    }

    // ---- letters and promises

    private static void lettersThatOvertake() {
        Check.about("Their moves travel as letters on mules over mountain passes, so that letters can overtake each other, and "
                + "a reply can be under way before the move that it answers.");
        MulePostBishops x = Games.overtaking();
        Check.same("move 4 has overtaken move 2", "2 4 " + UNDER_WAY + " " + ARRIVED,
                x.letterNumber(2) + " " + x.letterNumber(3) + " " + x.letterState(2) + " " + x.letterState(3));
        Check.same("the mules of the slow pass", "9 8", x.mules(0, 0) + " " + x.mules(0, 1));
        Check.same("the mules of the fast one", "8 10", x.mules(1, 0) + " " + x.mules(1, 1));
        MulePostBishops y = Check.start(Games.TWO_WALKERS);
        y.promise(1, 0, 0, 9, 56, 49);
        y.advance(1);
        Check.same("the reply is under way, and no move is made", UNDER_WAY + " 0 0", y.letterState(0) + " " + made(y));
        Check.same("the move that it answers", 1, y.move(0, 0, 9, 0));
        Check.same("states", "" + UNDER_WAY + WAITING, states(y));
    }

    private static void contentOfAMoveLetter() {
        Check.about("A move letter contains one move: its number, its start square and its end square.");
        int[][] moves = {{4, 24}, {4, 9}, {4, 11}, {1, 29}, {1, 8}, {6, 34}, {6, 13}};
        for (int[] move : moves) {
            MulePostBishops x = new MulePostBishops();
            Check.same("the number", 1, x.move(0, move[0], move[1], 1));
            Check.same("the number of the letter", 1, x.letterNumber(0));
            x.advance(5);
            Check.same("before the arrival", "1 0", made(x));
            x.advance(1);
            Check.same("one move", "1 1", made(x));
            Check.same("its squares", move[0] + "-" + move[1], x.movedFrom(1, 1) + "-" + x.movedTo(1, 1));
        }
    }

    private static void contentOfAPromise() {
        Check.about("A promise contains an expected move of the other player and a reply to it.",
                "The number of a promise is the number of the reply, so the expected move has the number before it.",
                "A player posts a promise. The expected move has the next move number of the player's board.",
                "Returns the number of the reply.");
        MulePostBishops x = Check.start(Games.TWO_WALKERS);
        Check.same("the first promise", 2, x.promise(1, 1, 0, 9, 56, 49));
        Check.same("its letter", "1 2 true", x.writer(0) + " " + x.letterNumber(0) + " " + x.isPromise(0));
        Check.same("the expected move", 1, x.move(0, 0, 9, 1));
        x.advance(2);
        Check.same("the moves", "0-9 56-49", Check.moves(x, 0));
        Check.same("the moves", "0-9 56-49", Check.moves(x, 1));
        x.move(0, 9, 18, 1);
        // the next number on the board of player 1 is still 3
        Check.same("the second promise", 4, x.promise(1, 1, 9, 18, 49, 42));
        Check.same("its letter", "1 4 true", x.writer(3) + " " + x.letterNumber(3) + " " + x.isPromise(3));
        x.advance(2);
        Check.same("the moves", "0-9 56-49 9-18 49-42", Check.moves(x, 0));
        Check.same("the moves", "0-9 56-49 9-18 49-42", Check.moves(x, 1));
        x.move(0, 18, 27, 1);
        Check.same("the promise of player 0", 7, x.promise(0, 1, 42, 35, 27, 36));
    }

    private static void addressees() {
        Check.about("A letter is addressed to the player who did not write it.");
        MulePostBishops x = Check.start(Games.TWO_WALKERS);
        x.move(0, 0, 9, 1);
        Check.same("who awaits the letter of player 0", NONE + " 0", x.awaitedLetter(0) + " " + x.awaitedLetter(1));
        x.advance(2);
        Check.same("after its arrival", "1 1", made(x));
        Check.same("where its mule is", "8 10", x.mules(1, 0) + " " + x.mules(1, 1));
        x.move(1, 56, 49, 1);
        Check.same("who awaits the letter of player 1", "1 " + NONE, x.awaitedLetter(0) + " " + x.awaitedLetter(1));
        x.advance(2);
        Check.same("after its arrival", "2 2", made(x));
        Check.same("where its mule is", "9 9", x.mules(1, 0) + " " + x.mules(1, 1));
    }

    private static void movesArePosted() {
        Check.about("When a player makes a move, the move is applied to the player's own board at once, and a move letter is "
                + "posted.",
                "A player makes a move and posts a move letter.", "Returns the number of the move.");
        MulePostBishops x = new MulePostBishops();
        Check.same("the first move", 1, x.move(0, 4, 24, 1));
        Check.same("on the own board", "1 0 0", made(x) + " " + x.bishopOwner(0, 24));
        Check.same("the letter", "1: 0 1 false " + WAITING, x.letterCount() + ": " + x.writer(0) + " " + x.letterNumber(0) + " "
                + x.isPromise(0) + " " + x.letterState(0));
        Check.same("the queues", "00 10", queues(x));
        x.advance(6);
        Check.same("the second move", 2, x.move(1, 31, 26, 0));
        Check.same("on the own board", "1 2 1", made(x) + " " + x.bishopOwner(1, 26));
        Check.same("the letter", "2: 1 2 false " + WAITING, x.letterCount() + ": " + x.writer(1) + " " + x.letterNumber(1) + " "
                + x.isPromise(1) + " " + x.letterState(1));
        Check.same("the queues", "01 00", queues(x));
    }

    private static String queues(MulePostBishops x) {
        StringBuilder text = new StringBuilder();
        for (int pass = 0; pass < x.passCount(); pass++) {
            text.append(pass == 0 ? "" : " ").append(x.queueLength(pass, 0)).append(x.queueLength(pass, 1));
        }
        return text.toString();
    }

    private static String allButLetters(MulePostBishops x) {
        StringBuilder text = new StringBuilder("day " + x.day() + " equal " + x.areBoardsEqual() + " " + x.duplicateCount());
        for (int p = 0; p < 2; p++) {
            text.append('\n').append(Check.board(x, p)).append(' ').append(x.moveCount(p)).append(x.isTurn(p)).append(x.isOver(p))
                    .append(x.storedMoves(p)).append(x.keptPromises(p)).append(x.longestWait(p)).append(x.mules(0, p));
        }
        return text.toString();
    }

    private static void onlyALetterOfAPromise() {
        Check.about("When a player makes a promise, only a letter is posted.");
        MulePostBishops x = new MulePostBishops();
        String before = allButLetters(x);
        x.promise(1, 0, 4, 24, 31, 24);
        Check.same("all but the letters", before, allButLetters(x));
        Check.same("the letter", "1 " + WAITING + " 01 00", x.letterCount() + " " + x.letterState(0) + " " + queues(x));
        x.move(0, 4, 24, 1);
        before = allButLetters(x);
        x.promise(0, 1, 31, 26, 1, 8);
        Check.same("all but the letters", before, allButLetters(x));
        Check.same("the letter", "3 " + WAITING + " 01 20", x.letterCount() + " " + x.letterState(2) + " " + queues(x));
    }

    private static void storedAndKnown() {
        Check.about("Otherwise the addressee stores its move.");
        MulePostBishops x = Games.overtaking();
        x.undo();
        x.advance(1);
        Check.same("the day before move 4 arrives", "0 1", x.storedMoves(0) + " " + x.moveCount(0));
        x.advance(1);
        Check.same("when move 4 arrives", "1 1", x.storedMoves(0) + " " + x.moveCount(0));
        x.advance(8);
        Check.same("what was stored is applied", "49-42", x.movedFrom(0, 4) + "-" + x.movedTo(0, 4));
        Check.about("Otherwise the addressee knows it from then on.");
        MulePostBishops y = Check.start(Games.TWO_WALKERS);
        y.promise(1, 1, 0, 9, 56, 49);
        Games.passUntil(y, 700);
        y.move(0, 0, 9, 0);
        Check.same("a promise of long ago", "2 0", made(y));
        Check.same("its reply", "56-49", y.movedFrom(0, 2) + "-" + y.movedTo(0, 2));
        y.advance(10);
        Check.same("on the board of its writer", "2 2", made(y));
    }

    private static void asLongAsPossible() {
        Check.about("After each own move and after each arrival, a player applies moves to the own board as long as possible, "
                + "by the following two rules.");
        // the promise 2 takes the slow pass, the promise 3 the fast one
        MulePostBishops x = Check.start(Games.TWO_WALKERS);
        x.promise(1, 0, 0, 9, 56, 49);
        x.move(0, 0, 9, 1);
        x.promise(0, 1, 56, 49, 9, 18);
        x.advance(2);
        Check.same("move 1, the own reply 2 and the known reply 3", "1 3", made(x));
        Check.same("move 4", 4, x.move(1, 49, 42, 1));
        x.advance(7);
        Check.same("without the promise 2", "1 4 1", made(x) + " " + x.storedMoves(0));
        x.advance(1);
        Check.same("the known reply 2, the own reply 3 and the stored move 4", "4 4 0", made(x) + " " + x.storedMoves(0));
        Check.same("the moves", "0-9 56-49 9-18 49-42", Check.moves(x, 0));
        // after an own move
        MulePostBishops y = Check.start(Games.TWO_WALKERS);
        y.promise(1, 1, 0, 9, 56, 49);
        y.advance(2);
        Check.same("no move yet", "0 0", made(y));
        y.move(0, 0, 9, 1);
        Check.same("the own move and the known reply", "2 0", made(y));
        Check.same("move 3 at once", 3, y.move(0, 9, 18, 1));
    }

    private static void writtenAndKnownPromises() {
        Check.about("If the player wrote or knows a promise with the next move number, and the latest move that was applied to "
                + "this board equals the expected move of the promise, the reply of the promise is applied.");
        String setup = HEAD + "pass 1 9 9;pass 1 0 0;";
        for (int known = 0; known < 2; known++) {
            for (int end = 9; end <= 18; end += 9) {
                // over pass 1 the promise never arrives
                MulePostBishops x = Check.start(setup);
                x.promise(1, 1 - known, 0, 9, 56, 49);
                x.move(0, 0, end, 0);
                x.advance(2);
                Check.same("promise 2 to 0-9, played 0-" + end, (end == 9 && known == 1 ? 2 : 1) + " " + (end == 9 ? 2 : 1),
                        made(x));
                // the same with the promise 3 of player 0
                MulePostBishops y = Check.start(setup);
                y.move(0, 0, 9, 0);
                y.promise(0, 1 - known, 56, 49, 9, 18);
                y.advance(2);
                y.move(1, 56, end == 9 ? 49 : 42, 0);
                y.advance(2);
                Check.same("promise 3 to 56-49, played otherwise at " + end, (end == 9 ? 3 : 2) + " "
                        + (end == 9 && known == 1 ? 3 : 2),
                        made(y));
            }
        }
    }

    // ---- passes

    private static void stablesAndQueues() {
        Check.about("Each pass has a stable with mules and a queue of letters on each side.", "Counts the mules in a stable.",
                "Returns the number of mules.", "Counts the letters in a queue.", "Returns the number of letters.");
        MulePostBishops x = Check.start(HEAD + "pass 9 1 2;pass 9 3 4;pass 9 5 6;pass 9 7 8;");
        x.move(0, 0, 9, 0);
        x.promise(1, 3, 0, 18, 56, 49);
        for (int pass = 0; pass < 4; pass++) {
            for (int i = pass == 0 ? 1 : 0; i < pass + 1; i++) {
                x.resend(0, pass);
            }
            for (int i = pass == 3 ? 1 : 0; i < 4 - pass; i++) {
                x.resend(1, pass);
            }
        }
        for (int day = 0; day < 2; day++) {
            for (int pass = 0; pass < 4; pass++) {
                for (int side = 0; side < 2; side++) {
                    int mules = 1 + 2 * pass + side;
                    int letters = side == 0 ? pass + 1 : 4 - pass;
                    int left = day * Math.min(mules, letters);
                    Check.same("mules of pass " + pass + " on side " + side, mules - left, x.mules(pass, side));
                    Check.same("letters of pass " + pass + " on side " + side, letters - left, x.queueLength(pass, side));
                }
            }
            x.advance(1);
        }
    }

    private static void endsOfQueues() {
        Check.about("A posted letter joins the end of the queue of its pass on the side of its writer.");
        MulePostBishops x = Check.start(HEAD + "pass 9 0 0;pass 9 0 0;");
        x.move(0, 0, 9, 0);
        x.promise(1, 0, 0, 18, 56, 49);
        x.resend(1, 0);
        x.resend(0, 0);
        x.resend(0, 1);
        x.resend(3, 0);
        x.resend(2, 0);
        Check.same("the queues", "33 10", queues(x));
        // a mule a day on each side of pass 0: the letters 0, 3, 5 and 1, 2, 6
        String[] due = {"1100000", "1111000", "1111011"};
        for (String states : due) {
            x.addMule(0, 0);
            x.addMule(0, 1);
            x.advance(1);
            Check.same("the states on day " + x.day(), states, states(x));
        }
        // who posts later waits behind, even if the letter is a copy of the first one
        x.resend(0, 0);
        x.resend(5, 0);
        x.addMule(0, 0);
        x.advance(1);
        Check.same("the states on day 4", "111101110", states(x));
    }

    private static void stepsOfADay() {
        Check.about("One day passes in three steps:", "1. The day increases by 1.",
                "2. Each letter that is under way is looked at,");
        // the day comes first: the letter leaves in month 1
        MulePostBishops x = Check.start(HEAD + "pass 1 1 0;snow 0 1 4;");
        x.advance(29);
        x.move(0, 0, 9, 0);
        x.advance(1);
        Check.same("left on day 30", "30 " + UNDER_WAY + " 35", x.day() + " " + x.letterState(0) + " " + x.arrivalDay(0));
        // then the letters under way: what leaves today is not looked at today, and what arrives brings a mule for today
        MulePostBishops y = Check.start(HEAD + "pass 1 1 0;");
        y.move(0, 0, 9, 0);
        y.promise(1, 0, 0, 18, 56, 49);
        String[] due = {"10", "21", "22"};
        for (String states : due) {
            y.advance(1);
            Check.same("the states on day " + y.day(), states, states(y));
        }
        // each one is looked at
        MulePostBishops z = Check.start(HEAD + "pass 1 9 9;pass 2 9 9;pass 3 9 9;");
        z.move(0, 0, 9, 2);
        z.resend(0, 1);
        z.resend(0, 0);
        z.resend(0, 2);
        String[] all = {"1111", "1121", "1221", "2222"};
        for (String states : all) {
            z.advance(1);
            Check.same("the states on day " + z.day(), states, states(z));
        }
    }

    private static void snowAndTravel() {
        MulePostBishops x = Check.start(HEAD + "pass 1 9 9;pass 3 9 9;pass 6 9 9;pass 9 9 9;");
        Check.about("Sets the snow depth of a pass in a month.", "Returns the snow depth of a pass in a month.", "Returns 0 to 9.");
        for (int i = 0; i < 48; i++) {
            Check.same("the depth before", 0, x.setSnow(i / 12, i % 12, i * 7 % 10));
        }
        for (int i = 0; i < 48; i++) {
            Check.same("snowDepth(" + i / 12 + ", " + i % 12 + ")", i * 7 % 10, x.snowDepth(i / 12, i % 12));
        }
        Check.about("Returns the number of days that a letter would travel if it left now.");
        for (int month = 0; month < 12; month++) {
            for (int pass = 0; pass < 4; pass++) {
                int depth = (pass * 12 + month) * 7 % 10;
                Check.same("travelDays(" + pass + ") in month " + month, depth == 9 ? NONE : new int[] {1, 3, 6, 9}[pass] + depth,
                        x.travelDays(pass));
            }
            x.advance(30);
        }
        // a letter that left today
        MulePostBishops y = new MulePostBishops();
        y.move(0, 4, 24, 0);
        y.resend(0, 1);
        y.advance(1);
        for (int pass = 0; pass < 2; pass++) {
            Check.same("over pass " + pass, y.travelDays(pass), y.arrivalDay(pass) - y.day());
        }
    }

    // ---- what the letters tell

    private static void whatALetterTells() {
        String[] due = {"1 2 true", "0 1 false", "1 2 true", "0 1 false", "0 3 true", "1 2 false", "0 3 true", "1 2 false"};
        MulePostBishops x = Check.start(Games.TWO_WALKERS);
        x.promise(1, 1, 0, 18, 56, 49);
        x.move(0, 0, 9, 1);
        x.resend(0, 0);
        x.resend(1, 0);
        x.promise(0, 0, 56, 49, 9, 18);
        x.advance(2);
        x.move(1, 56, 42, 1);
        x.resend(4, 1);
        x.resend(5, 0);
        Check.same("letterCount()", due.length, x.letterCount());
        for (int i = 0; i < due.length; i++) {
            String[] words = due[i].split(" ");
            Check.about("Returns the writer of a letter.", "Returns the player who wrote it.");
            Check.same("writer(" + i + ")", Integer.valueOf(words[0]), x.writer(i));
            Check.about("Returns the move number of a letter.",
                    "Returns the number of its move, or the number of its reply if it is a promise.");
            Check.same("letterNumber(" + i + ")", Integer.valueOf(words[1]), x.letterNumber(i));
            Check.about("Tells whether a letter is a promise.", "Returns true for a promise, false for a move letter.");
            Check.same("isPromise(" + i + ")", Boolean.valueOf(words[2]), x.isPromise(i));
        }
    }

    private static void statesOfLetters() {
        Check.about("Returns the state of a letter.", "Returns WAITING, UNDER_WAY or ARRIVED.",
                "`WAITING = 0`: State of a letter: it waits in a queue.", "`UNDER_WAY = 1`: State of a letter: it is under way.",
                "`ARRIVED = 2`: State of a letter: it has arrived.");
        Check.same("the constants", "0 1 2", WAITING + " " + UNDER_WAY + " " + ARRIVED);
        MulePostBishops x = Check.start(HEAD + "pass 2 1 0;pass 3 0 2;");
        x.move(0, 0, 9, 0);
        x.promise(1, 1, 0, 18, 56, 49);
        for (int i = 0; i < 3; i++) {
            x.resend(0, i % 2);
            x.resend(1, i % 2);
        }
        int arrived = 0;
        for (int day = 0; day <= 15; day++) {
            int[] counts = new int[3];
            for (int i = 0; i < x.letterCount(); i++) {
                counts[x.letterState(i)]++;
            }
            int waiting = x.queueLength(0, 0) + x.queueLength(0, 1) + x.queueLength(1, 0) + x.queueLength(1, 1);
            int standing = x.mules(0, 0) + x.mules(0, 1) + x.mules(1, 0) + x.mules(1, 1);
            // three mules in all, one with each letter that is under way
            Check.same("the states on day " + day, waiting + " " + (3 - standing) + " " + arrived,
                    counts[WAITING] + " " + counts[UNDER_WAY] + " " + counts[ARRIVED]);
            arrived += x.advance(1);
        }
        Check.same("the mules went to and fro", 8, arrived);
    }

    private static void awaitedLetters() {
        Check.about("Returns the letter that a player awaits:", "Returns the letter, NONE if there is none.");
        MulePostBishops x = Check.start(Games.TWO_WALKERS);
        Check.same("at first", "-1 -1", x.awaitedLetter(0) + " " + x.awaitedLetter(1));
        x.promise(1, 0, 0, 18, 56, 49);
        Check.same("the number 2 is not the next one yet", "-1 -1", x.awaitedLetter(0) + " " + x.awaitedLetter(1));
        x.move(0, 0, 9, 1);
        Check.same("the promise 2 and the move 1", "0 1", x.awaitedLetter(0) + " " + x.awaitedLetter(1));
        x.advance(2);
        x.move(1, 56, 49, 1);
        Check.same("the promise 2, with a lower number than the move 2", "0 -1", x.awaitedLetter(0) + " " + x.awaitedLetter(1));
        x.advance(2);
        Check.same("the promise 2 is still under way", "-1 -1 1", x.awaitedLetter(0) + " " + x.awaitedLetter(1) + " "
                + x.letterState(0));
        x.undo();
        x.undo();
        Check.same("the move 2 is undone", "0 -1 2", x.awaitedLetter(0) + " " + x.awaitedLetter(1) + " " + x.letterCount());
        x.undo();
        x.undo();
        Check.same("the move 1 is undone", "-1 -1 1", x.awaitedLetter(0) + " " + x.awaitedLetter(1) + " " + x.letterCount());
    }

    private static String reasons(MulePostBishops x) {
        String[] names = {"MAY_MOVE", "GAME_OVER", "NOT_POSTED", "IN_QUEUE", "ON_THE_WAY"};
        return names[x.reasonToWait(0)] + " " + names[x.reasonToWait(1)];
    }

    private static void reasons() {
        Check.about("Tells why a player waits.", "`MAY_MOVE = 0`: Reason: it is the player's turn.",
                "`GAME_OVER = 1`: Reason: the game is over on the player's board.",
                "`NOT_POSTED = 2`: Reason: no letter with the awaited move is posted.",
                "`IN_QUEUE = 3`: Reason: the awaited letter waits in a queue.",
                "`ON_THE_WAY = 4`: Reason: the awaited letter is under way.");
        Check.same("the constants", "0 1 2 3 4", MulePostBishops.MAY_MOVE + " " + MulePostBishops.GAME_OVER + " "
                + MulePostBishops.NOT_POSTED + " " + MulePostBishops.IN_QUEUE + " " + MulePostBishops.ON_THE_WAY);
        MulePostBishops x = Check.start("game 8 2;bishop 0 0 0;bishop 1 7 0;pass 2 9 9;");
        Check.same("at first", "MAY_MOVE NOT_POSTED", reasons(x));
        x.move(0, 0, 9, 0);
        Check.same("after move 1", "NOT_POSTED IN_QUEUE", reasons(x));
        x.advance(1);
        Check.same("when it has left", "NOT_POSTED ON_THE_WAY", reasons(x));
        x.advance(2);
        Check.same("when it has arrived", "NOT_POSTED MAY_MOVE", reasons(x));
        x.move(1, 56, 49, 0);
        Check.same("after move 2", "IN_QUEUE GAME_OVER", reasons(x));
        x.advance(1);
        Check.same("when it has left", "ON_THE_WAY GAME_OVER", reasons(x));
        x.advance(2);
        Check.same("when it has arrived", "GAME_OVER GAME_OVER", reasons(x));
    }

    private static void orderOfReasons() {
        Check.about("Returns the first reason that applies, in this order: MAY_MOVE, GAME_OVER, NOT_POSTED (there is no "
                + "awaited letter), IN_QUEUE, ON_THE_WAY.");
        // the promise 2 expects another move, and the game is over on the board on which 2 is the next number
        MulePostBishops x = Check.start("game 8 60;bishop 0 0 0;bishop 1 7 7;pass 2 9 9;");
        x.promise(1, 0, 0, 9, 63, 54);
        x.move(0, 0, 63, 0);
        Check.same("over, and a letter in the queue is awaited", "GAME_OVER IN_QUEUE 0 0",
                reasons(x) + " " + x.awaitedLetter(0) + " " + x.letterState(0));
        x.advance(1);
        Check.same("over, and a letter under way is awaited", "GAME_OVER ON_THE_WAY 0 1",
                reasons(x) + " " + x.awaitedLetter(0) + " " + x.letterState(0));
        x.advance(2);
        Check.same("over, and no letter is awaited", "GAME_OVER GAME_OVER -1 2",
                reasons(x) + " " + x.awaitedLetter(0) + " " + x.letterState(0));
        MulePostBishops y = Check.start(HEAD + "pass 1 0 9;pass 1 9 9;");
        Check.same("the turn, and no letter is awaited", "MAY_MOVE NOT_POSTED -1", reasons(y) + " " + y.awaitedLetter(0));
        y.move(0, 0, 9, 0);
        y.resend(0, 1);
        y.advance(1);
        Check.same("one in the queue, and one under way", "NOT_POSTED IN_QUEUE 01", reasons(y) + " " + states(y));
    }

    // ---- statistics

    private static void duplicates() {
        Check.about("Returns the number of letters that were duplicates when they arrived. @return the number of letters");
        MulePostBishops x = Check.start(Games.TWO_WALKERS);
        x.move(0, 0, 9, 0);
        for (int i = 0; i < 3; i++) {
            x.resend(0, 1);
        }
        Check.same("before they arrive", 0, x.duplicateCount());
        x.advance(2);
        Check.same("the first of three copies is none", "0 2", x.letterState(0) - UNDER_WAY + " " + x.duplicateCount());
        x.advance(8);
        Check.same("the letter that was slower than its copies", 3, x.duplicateCount());
        x.move(1, 56, 49, 1);
        x.resend(4, 1);
        x.promise(1, 1, 9, 18, 49, 42);
        x.resend(6, 1);
        x.advance(2);
        Check.same("letters of player 1, a move and a promise", 5, x.duplicateCount());
        x.undo();
        Check.same("before they arrived", 3, x.duplicateCount());
    }

    private static String kept(MulePostBishops x) {
        return made(x) + " " + x.keptPromises(0) + " " + x.keptPromises(1);
    }

    private static void keptPromises() {
        Check.about("Counts the replies of a player's promises that were applied to the player's own board.",
                "Returns the number of replies.");
        MulePostBishops x = Check.start(Games.TWO_WALKERS);
        x.promise(1, 1, 0, 9, 56, 49);
        x.move(0, 0, 9, 1);
        Check.same("before move 1 arrives", "1 0 0 0", kept(x));
        x.advance(2);
        Check.same("the reply 2 on both boards", "2 2 0 1", kept(x));
        x.move(0, 9, 18, 1);
        x.promise(1, 1, 9, 18, 49, 42);
        x.advance(2);
        Check.same("the reply 4 on both boards", "4 4 0 2", kept(x));
        x.move(0, 18, 27, 1);
        x.promise(0, 1, 42, 35, 27, 36);
        x.advance(2);
        x.move(1, 42, 35, 1);
        Check.same("the reply 7 on the other board", "5 7 0 2", kept(x));
        x.advance(2);
        Check.same("the reply 7 on the own board", "7 7 1 2", kept(x));
        x.move(1, 35, 28, 1);
        x.advance(2);
        Check.same("a move that was not promised", "8 8 1 2", kept(x));
    }

    private static void waits() {
        Check.about("Returns the longest waiting time of a player.", "Returns the mean waiting time of a player.");
        // on which day, over which pass; pass 0 takes ten days in all, pass 1 takes two
        int[][] moves = {{0, 0, 9, 0}, {10, 56, 49, 1}, {15, 9, 18, 1}, {17, 49, 42, 0}, {27, 18, 27, 1}, {29, 42, 35, 1}};
        // after the arrival of each move: the longest wait and the sum of the waits of both
        int[][] due = {{0, 0, 0, 0}, {12, 12, 0, 0}, {12, 12, 7, 7}, {12, 24, 7, 7}, {12, 24, 12, 19}, {12, 28, 12, 19}};
        MulePostBishops x = Check.start(Games.TWO_WALKERS);
        int[] waits = new int[2];
        for (int i = 0; i < moves.length; i++) {
            Games.passUntil(x, moves[i][0]);
            x.move(i % 2, moves[i][1], moves[i][2], moves[i][3]);
            x.advance(moves[i][3] == 0 ? 10 : 2);
            waits[1 - i % 2] += i > 0 ? 1 : 0;
            for (int p = 0; p < 2; p++) {
                Check.same("longestWait(" + p + ") after move " + (i + 1), due[i][2 * p], x.longestWait(p));
                Check.same("meanWait(" + p + ") after move " + (i + 1),
                        waits[p] == 0 ? 0.0 : (double) due[i][2 * p + 1] / (double) waits[p], x.meanWait(p));
            }
        }
    }

    private static void travels() {
        Check.about("Returns the mean number of days from posting to arrival.");
        MulePostBishops x = Check.start(HEAD + "pass 2 1 0;pass 5 2 1;");
        int[] posted = new int[80];
        int letters = 1;
        x.move(0, 0, 9, 0);
        for (int day = 0; day < 26; day++) {
            if (day % 3 == 1) {
                posted[x.resend(0, day % 2)] = day;
                letters++;
            }
            int sum = 0;
            int arrived = 0;
            for (int i = 0; i < letters; i++) {
                if (x.letterState(i) == ARRIVED) {
                    sum += x.arrivalDay(i) - posted[i];
                    arrived++;
                }
            }
            Check.same("meanTravel() on day " + day, arrived == 0 ? 0.0f : (float) sum / (float) arrived, x.meanTravel());
            x.advance(1);
        }
    }

    /** What contradictions() compares, told by other calls; player 0 has two bishops at first, and player 1 three. */
    private static void noContradiction(MulePostBishops x, int mules) {
        for (int number = 1; number <= Math.min(x.moveCount(0), x.moveCount(1)); number++) {
            Check.same("move " + number + " on both boards", x.movedFrom(0, number) + "-" + x.movedTo(0, number),
                    x.movedFrom(1, number) + "-" + x.movedTo(1, number));
        }
        for (int p = 0; p < 2; p++) {
            int captures = Check.moves(x, p).replaceAll("[^x]", "").length();
            Check.same("bishops and captures of board " + p, 5, x.bishopCount(p, 0) + x.bishopCount(p, 1) + captures);
        }
        int withLetters = states(x).replaceAll("[^" + UNDER_WAY + "]", "").length();
        Check.same("mules in stables and with letters", mules, x.mules(0, 0) + x.mules(0, 1) + x.mules(1, 0) + x.mules(1, 1)
                + withLetters);
        Check.same("contradictions()", 0, x.contradictions());
    }

    private static void contradictions() {
        Check.about("Counts contradictions. The result is always 0.",
                "Returns the number of move numbers up to the smaller move count for which the moves on both boards differ; "
                + "plus, for each board, the absolute difference between the bishops of the setup and the bishops on the board "
                + "plus its captures; plus the absolute difference between the mules of the setup plus the added mules, and "
                + "the mules in stables plus the letters that are under way.");
        MulePostBishops x = Check.start("game 8 60;bishop 0 0 0;bishop 0 0 1;bishop 1 2 2;bishop 1 7 0;bishop 1 7 7;pass 3 2 "
                + "1;pass 1 1 1;");
        noContradiction(x, 5);
        x.promise(1, 0, 0, 18, 63, 18);
        x.move(0, 0, 18, 1);
        noContradiction(x, 5);
        x.addMule(0, 1);
        for (int day = 1; day <= 4; day++) {
            x.advance(1);
            noContradiction(x, 6);
        }
        Check.same("two captures on both boards", "0x18 63x18 0x18 63x18", Check.moves(x, 0) + " " + Check.moves(x, 1));
        x.move(0, 1, 8, 1);
        x.resend(1, 1);
        x.advance(1);
        noContradiction(x, 6);
        x.undo();
        x.undo();
        noContradiction(x, 6);
    }

    // ---- forecasts

    private static final Maker[] MAKERS = {Games::overtaking, PostSentenceTest::beforeTheSnow, PostSentenceTest::fewMules};

    /** Pass 0 is closed in month 1. */
    private static MulePostBishops beforeTheSnow() {
        MulePostBishops x = new MulePostBishops();
        x.advance(24);
        x.promise(1, 0, 4, 24, 31, 24);
        x.move(0, 4, 24, 0);
        x.promise(0, 1, 31, 24, 1, 8);
        x.resend(0, 0);
        x.advance(2);
        return x;
    }

    /** Letters of both players share three mules; the last letter never leaves, as no mule comes back. */
    private static MulePostBishops fewMules() {
        MulePostBishops x = Check.start(HEAD + "pass 2 1 0;pass 3 0 2;");
        x.promise(1, 0, 0, 9, 56, 49);
        x.move(0, 0, 9, 1);
        x.resend(1, 0);
        x.resend(0, 1);
        x.resend(1, 0);
        x.resend(1, 1);
        return x;
    }

    private static void forecastsOfLettersAndTurns() {
        for (Maker maker : MAKERS) {
            MulePostBishops foretold = maker.make();
            MulePostBishops x = maker.make();
            int letters = x.letterCount();
            int[] arrival = new int[letters];
            java.util.Arrays.fill(arrival, NONE);
            int[] turn = {NONE, NONE};
            int equal = NONE;
            int today = x.day();
            for (int days = 0; days <= 48; days++) {
                for (int i = 0; i < letters; i++) {
                    if (arrival[i] == NONE && x.letterState(i) == ARRIVED) {
                        arrival[i] = days == 0 ? foretold.arrivalDay(i) : today + days;
                    }
                }
                for (int p = 0; p < 2; p++) {
                    turn[p] = turn[p] == NONE && x.isTurn(p) ? days : turn[p];
                }
                equal = equal == NONE && x.areBoardsEqual() ? days : equal;
                x.advance(1);
            }
            Check.about("Returns the day on which a letter arrives.");
            for (int i = 0; i < letters; i++) {
                Check.same("arrivalDay(" + i + ")", arrival[i], foretold.arrivalDay(i));
            }
            Check.about("Returns in how many days it is a player's turn.");
            Check.same("daysUntilTurn", turn[0] + " " + turn[1], foretold.daysUntilTurn(0) + " " + foretold.daysUntilTurn(1));
            Check.about("Returns in how many days both boards agree.");
            Check.same("daysUntilEqual()", equal, foretold.daysUntilEqual());
        }
    }

    /** The day on which a copy of a letter arrives, posted over a pass. */
    private static int realArrival(Maker maker, int letter, int pass) {
        MulePostBishops x = maker.make();
        int copy = x.resend(letter, pass);
        for (int days = 0; days < 200; days++) {
            if (x.letterState(copy) == ARRIVED) {
                return x.day();
            }
            x.advance(1);
        }
        return NEVER;
    }

    private static void forecastsOfPasses() {
        Check.about("Returns the pass over which a further letter of a player would arrive first if it was posted now.");
        for (Maker maker : MAKERS) {
            MulePostBishops x = maker.make();
            for (int letter = 0; letter < x.letterCount(); letter++) {
                int first = realArrival(maker, letter, 0);
                int second = realArrival(maker, letter, 1);
                int due = first == NEVER && second == NEVER ? NONE : first <= second ? 0 : 1;
                Check.same("fastestPass(" + x.writer(letter) + ")", due, x.fastestPass(x.writer(letter)));
            }
        }
    }
}
