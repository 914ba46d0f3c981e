import java.util.IdentityHashMap;
import java.util.Map;
import java.util.NoSuchElementException;

/** Every call that is refused: which exception comes, and that nothing has changed. */
public final class RefusedTest {
    private static final Class<?> NO_SUCH_THING = IndexOutOfBoundsException.class;
    private static final Class<?> WRONG_STATE = IllegalStateException.class;
    private static final Class<?> WRONG_ARGUMENT = IllegalArgumentException.class;
    private static final Class<?> NO_SUCH_ELEMENT = NoSuchElementException.class;
    private static final int MIN = Integer.MIN_VALUE;
    private static final int MAX = Integer.MAX_VALUE;
    private static final int[] NO_PLAYERS = {-1, 2, MIN, MAX};
    private static final int[] NO_MONTHS = {-1, 12, MIN, MAX};

    /** Makes an object anew, always in the same state. */
    private interface Maker {
        MulePostBishops make();
    }

    private interface Call {
        Object on(MulePostBishops x);
    }

    // in every state the text buffer holds a script, so that it can be seen whether its bytes are still there
    private static final Maker FRESH = RefusedTest::fresh;
    private static final Maker MIDGAME = RefusedTest::midgame;
    private static final Maker TURN = RefusedTest::turn;
    private static final Maker OVER = RefusedTest::over;
    private static final Maker FULL = RefusedTest::full;
    private static final Maker LATE = RefusedTest::late;
    private static final Maker BRIM = RefusedTest::brim;
    private static final Call[] STAGES = {x -> "nothing", x -> x.undo(), RefusedTest::undoAll, x -> x.restore(0),
        x -> x.restore(1), x -> x.runScript()};
    private static final Map<Maker, String[]> PICTURES = new IdentityHashMap<>();

    public static void main(String[] args) {
        texts();
        noSuchPlayer();
        noSuchSquare();
        noSuchMove();
        noSuchPassOrMonth();
        noSuchLetter();
        move();
        promise();
        resend();
        advance();
        addMule();
        setSnow();
        undoAndSlots();
        wrongTexts();
        Check.end();
    }

    // ---- the states

    private static MulePostBishops fresh() {
        MulePostBishops x = new MulePostBishops();
        Check.type(x, "days 2;");
        return x;
    }

    /** Nobody's turn, a stored move, a known promise, letters in every state, nine changes, and both slots filled. */
    private static MulePostBishops midgame() {
        MulePostBishops x = Games.overtaking();
        x.save(0);
        x.setSnow(0, 5, 3);
        x.resend(3, 0);
        x.save(1);
        x.advance(1);
        x.resend(1, 1);
        Check.load(x, "game 9");
        x.writeMoves(1);
        Check.type(x, "days 2;");
        return x;
    }

    /** Player 0's turn, the number 5, with bishops on 18 and 42. */
    private static MulePostBishops turn() {
        MulePostBishops x = Games.overtaking();
        x.advance(8);
        x.save(1);
        x.writeBoard(0);
        Check.type(x, "move 0 18 27 0;");
        return x;
    }

    private static MulePostBishops over() {
        MulePostBishops x = Check.start("game 8 60;bishop 0 0 0;bishop 0 0 1;bishop 1 7 7;pass 1 1 1;");
        x.save(0);
        x.move(0, 0, 63, 0);
        x.advance(2);
        Check.type(x, "days 2;");
        return x;
    }

    /** Player 1's turn, and 80 letters exist. */
    private static MulePostBishops full() {
        MulePostBishops x = Games.fullPost();
        x.advance(30);
        x.save(0);
        x.writeBoard(1);
        Check.type(x, "days 2;");
        return x;
    }

    private static MulePostBishops late() {
        MulePostBishops x = Check.start(Games.TWO_WALKERS);
        x.move(0, 0, 9, 1);
        x.promise(0, 0, 56, 49, 9, 0);
        Games.passUntil(x, 9990);
        x.addMule(0, 0);
        x.resend(0, 0);
        x.save(1);
        Check.type(x, "days 2;");
        return x;
    }

    /** The text buffer is full. */
    private static MulePostBishops brim() {
        MulePostBishops x = Games.overtaking();
        Check.type(x, "days 2;" + " ".repeat(784) + "mule 0 1;");
        return x;
    }

    // ---- how it is seen that nothing has changed

    private static Object answer(Call call, MulePostBishops x) {
        try {
            return call.on(x);
        } catch (RuntimeException e) {
            return e.getClass();
        }
    }

    private static int undoAll(MulePostBishops x) {
        int undone = 0;
        while (x.undoCount() > 0 && undone < 9) {
            x.undo();
            undone++;
        }
        return undone;
    }

    /** Each stage of an object's later life is looked at in an object of its own. */
    private static String picture(Maker maker, Call stage) {
        MulePostBishops x = maker.make();
        return answer(stage, x) + "\n" + Picture.whole(x);
    }

    private static void refused(String call, Class<?> want, Maker maker, Call action) {
        String[] due = PICTURES.computeIfAbsent(maker, m -> {
            String[] pictures = new String[STAGES.length];
            for (int i = 0; i < STAGES.length; i++) {
                pictures[i] = picture(m, STAGES[i]);
            }
            return pictures;
        });
        for (int i = 0; i < STAGES.length; i++) {
            Object[] got = new Object[1];
            String after = picture(() -> {
                MulePostBishops x = maker.make();
                got[0] = answer(action, x);
                return x;
            }, STAGES[i]);
            Check.same(call, want, got[0]);
            Check.same("the picture in stage " + i + " after " + call, due[i], after);
        }
    }

    // ---- texts

    private static void texts() {
        Check.about("Throws `IllegalStateException` if the buffer would hold more than 800 bytes");
        refused("append(1, 0, 0, 0, 0)", WRONG_STATE, BRIM, x -> x.append(1, 0, 0, 0, 0));
        refused("append(0, 1 << 8, 0, 0, 0)", WRONG_STATE, BRIM, x -> x.append(0, 1 << 8, 0, 0, 0));
        refused("append(0, 0, 1 << 16, 0, 0)", WRONG_STATE, BRIM, x -> x.append(0, 0, 1 << 16, 0, 0));
        refused("append(0, 0, 0, 1 << 24, 0)", WRONG_STATE, BRIM, x -> x.append(0, 0, 0, 1 << 24, 0));
        refused("append(0, 0, 0, 0, 255)", WRONG_STATE, BRIM, x -> x.append(0, 0, 0, 0, 255));
        refused("append of twenty", WRONG_STATE, BRIM, x -> x.append(-1, -1, -1, -1, -1));
        Check.about("Throws `IllegalArgumentException` if length is out of range");
        for (int length : new int[] {-1, 8, 800, 801, MIN, MAX}) {
            refused("truncate(" + length + ")", WRONG_ARGUMENT, MIDGAME, x -> x.truncate(length));
        }
        for (int length : new int[] {-1, 801}) {
            refused("truncate(" + length + ")", WRONG_ARGUMENT, BRIM, x -> x.truncate(length));
        }
    }

    // ---- what does not exist

    private static void noSuchPlayer() {
        Check.about("IndexOutOfBoundsException is thrown if a player, side, square, pass, month, letter or slot with the "
                + "given number does not exist.",
                "Throws `IndexOutOfBoundsException` if there is no such player");
        for (int p : NO_PLAYERS) {
            refused("bishopOwner", NO_SUCH_THING, MIDGAME, x -> x.bishopOwner(p, 0));
            refused("bishopCount", NO_SUCH_THING, MIDGAME, x -> x.bishopCount(p, 0));
            refused("bishopCount", NO_SUCH_THING, MIDGAME, x -> x.bishopCount(0, p));
            refused("moveCount", NO_SUCH_THING, MIDGAME, x -> x.moveCount(p));
            refused("isTurn", NO_SUCH_THING, MIDGAME, x -> x.isTurn(p));
            refused("isOver", NO_SUCH_THING, MIDGAME, x -> x.isOver(p));
            refused("winner", NO_SUCH_THING, MIDGAME, x -> x.winner(p));
            refused("canMove", NO_SUCH_THING, MIDGAME, x -> x.canMove(p, 0, 9));
            refused("mobility", NO_SUCH_THING, MIDGAME, x -> x.mobility(p, 0));
            refused("mobility", NO_SUCH_THING, MIDGAME, x -> x.mobility(1, p));
            refused("storedMoves", NO_SUCH_THING, MIDGAME, x -> x.storedMoves(p));
            refused("awaitedLetter", NO_SUCH_THING, MIDGAME, x -> x.awaitedLetter(p));
            refused("reasonToWait", NO_SUCH_THING, MIDGAME, x -> x.reasonToWait(p));
            refused("keptPromises", NO_SUCH_THING, MIDGAME, x -> x.keptPromises(p));
            refused("longestWait", NO_SUCH_THING, MIDGAME, x -> x.longestWait(p));
            refused("meanWait", NO_SUCH_THING, MIDGAME, x -> x.meanWait(p));
            refused("daysUntilTurn", NO_SUCH_THING, MIDGAME, x -> x.daysUntilTurn(p));
            refused("fastestPass", NO_SUCH_THING, MIDGAME, x -> x.fastestPass(p));
            refused("writeBoard", NO_SUCH_THING, MIDGAME, x -> x.writeBoard(p));
            refused("writeMoves", NO_SUCH_THING, MIDGAME, x -> x.writeMoves(p));
        }
    }

    private static void noSuchSquare() {
        Check.about("IndexOutOfBoundsException is thrown if a player, side, square, pass, month, letter or slot with the "
                + "given number does not exist.",
                "Throws `IndexOutOfBoundsException` if there is no such player or square");
        for (int square : new int[] {-1, 64, MIN, MAX}) {
            refused("bishopOwner", NO_SUCH_THING, MIDGAME, x -> x.bishopOwner(1, square));
            refused("canMove", NO_SUCH_THING, MIDGAME, x -> x.canMove(0, square, 0));
            refused("canMove", NO_SUCH_THING, MIDGAME, x -> x.canMove(0, 9, square));
        }
        for (int square : new int[] {-1, 36, 37, 63}) {
            refused("bishopOwner", NO_SUCH_THING, FRESH, x -> x.bishopOwner(1, square));
            refused("canMove", NO_SUCH_THING, FRESH, x -> x.canMove(0, square, 4));
            refused("canMove", NO_SUCH_THING, FRESH, x -> x.canMove(0, 4, square));
        }
    }

    private static void noSuchMove() {
        Check.about("Throws `NoSuchElementException` if no move with this number was applied to the board");
        for (int number : new int[] {0, -1, 2, 3, 60, 61, MIN, MAX}) {
            refused("movedFrom(0, " + number + ")", NO_SUCH_ELEMENT, MIDGAME, x -> x.movedFrom(0, number));
            refused("movedTo(0, " + number + ")", NO_SUCH_ELEMENT, MIDGAME, x -> x.movedTo(0, number));
        }
        refused("movedFrom(1, 5)", NO_SUCH_ELEMENT, MIDGAME, x -> x.movedFrom(1, 5));
        refused("movedTo(1, 5)", NO_SUCH_ELEMENT, MIDGAME, x -> x.movedTo(1, 5));
        refused("movedFrom(0, 1) at first", NO_SUCH_ELEMENT, FRESH, x -> x.movedFrom(0, 1));
        Check.about("If several exceptions apply, the one that is listed first is thrown.");
        for (int p : NO_PLAYERS) {
            refused("movedFrom(" + p + ", 1)", NO_SUCH_THING, MIDGAME, x -> x.movedFrom(p, 1));
            refused("movedFrom(" + p + ", 0)", NO_SUCH_THING, MIDGAME, x -> x.movedFrom(p, 0));
            refused("movedTo(" + p + ", 1)", NO_SUCH_THING, MIDGAME, x -> x.movedTo(p, 1));
            refused("movedTo(" + p + ", 61)", NO_SUCH_THING, MIDGAME, x -> x.movedTo(p, 61));
        }
    }

    private static void noSuchPassOrMonth() {
        Check.about("IndexOutOfBoundsException is thrown if a player, side, square, pass, month, letter or slot with the "
                + "given number does not exist.",
                "Throws `IndexOutOfBoundsException` if there is no such pass");
        for (int pass : new int[] {-1, 2, 3, 4, MIN, MAX}) {
            refused("snowDepth", NO_SUCH_THING, MIDGAME, x -> x.snowDepth(pass, 0));
            refused("travelDays", NO_SUCH_THING, MIDGAME, x -> x.travelDays(pass));
            refused("mules", NO_SUCH_THING, MIDGAME, x -> x.mules(pass, 0));
            refused("queueLength", NO_SUCH_THING, MIDGAME, x -> x.queueLength(pass, 1));
        }
        for (int month : NO_MONTHS) {
            refused("snowDepth", NO_SUCH_THING, MIDGAME, x -> x.snowDepth(0, month));
            refused("snowDepth", NO_SUCH_THING, MIDGAME, x -> x.snowDepth(1, month));
        }
        for (int side : NO_PLAYERS) {
            refused("mules", NO_SUCH_THING, MIDGAME, x -> x.mules(1, side));
            refused("queueLength", NO_SUCH_THING, MIDGAME, x -> x.queueLength(0, side));
        }
    }

    private static void noSuchLetter() {
        Check.about("Throws `IndexOutOfBoundsException` if there is no such letter");
        for (int letter : new int[] {-1, 6, 79, 80, 83, 84, MIN, MAX}) {
            noLetter(MIDGAME, letter);
        }
        noLetter(FRESH, 0);
        noLetter(FULL, 80);
        noLetter(FULL, -1);
    }

    private static void noLetter(Maker maker, int letter) {
        refused("writer(" + letter + ")", NO_SUCH_THING, maker, x -> x.writer(letter));
        refused("letterNumber(" + letter + ")", NO_SUCH_THING, maker, x -> x.letterNumber(letter));
        refused("isPromise(" + letter + ")", NO_SUCH_THING, maker, x -> x.isPromise(letter));
        refused("letterState(" + letter + ")", NO_SUCH_THING, maker, x -> x.letterState(letter));
        refused("arrivalDay(" + letter + ")", NO_SUCH_THING, maker, x -> x.arrivalDay(letter));
    }

    // ---- changes

    private static void noMove(String why, Class<?> want, Maker maker, int player, int from, int to, int pass) {
        refused("move: " + why, want, maker, x -> x.move(player, from, to, pass));
    }

    private static void move() {
        Check.about("Throws `IndexOutOfBoundsException` if there is no such player, square or pass");
        for (int p : NO_PLAYERS) {
            noMove("no player", NO_SUCH_THING, TURN, p, 18, 27, 0);
            noMove("no pass", NO_SUCH_THING, TURN, 0, 18, 27, p);
        }
        for (int square : new int[] {-1, 64, MIN, MAX}) {
            noMove("no square", NO_SUCH_THING, TURN, 0, square, 27, 0);
            noMove("no square", NO_SUCH_THING, TURN, 0, 18, square, 0);
        }
        noMove("no square", NO_SUCH_THING, FRESH, 0, 36, 24, 0);
        noMove("no square", NO_SUCH_THING, FRESH, 0, 4, 36, 0);
        noMove("no square on a full post", NO_SUCH_THING, FULL, 1, 64, 49, 0);
        noMove("no pass when it is over", NO_SUCH_THING, OVER, 1, 63, 54, 1);
        noMove("no player and all else wrong", NO_SUCH_THING, FULL, 2, 0, 0, 0);
        Check.about("Throws `IllegalStateException` if it is not the player's turn, or 80 letters exist");
        noMove("not the turn", WRONG_STATE, TURN, 1, 42, 35, 0);
        noMove("not the turn, and no way", WRONG_STATE, TURN, 1, 42, 43, 0);
        noMove("nobody's turn", WRONG_STATE, MIDGAME, 0, 9, 18, 0);
        noMove("nobody's turn", WRONG_STATE, MIDGAME, 1, 42, 35, 0);
        noMove("the game is over", WRONG_STATE, OVER, 1, 63, 54, 0);
        noMove("the game is over", WRONG_STATE, OVER, 0, 1, 8, 0);
        noMove("80 letters", WRONG_STATE, FULL, 1, 56, 49, 0);
        noMove("80 letters, and no way", WRONG_STATE, FULL, 1, 56, 56, 0);
        noMove("80 letters, and not the turn", WRONG_STATE, FULL, 0, 9, 18, 0);
        Check.about("Throws `IllegalArgumentException` if there is no bishop of the player on from, or it cannot move to to");
        noMove("no bishop", WRONG_ARGUMENT, TURN, 0, 0, 9, 0);
        noMove("the other's bishop", WRONG_ARGUMENT, TURN, 0, 42, 35, 0);
        noMove("the same square", WRONG_ARGUMENT, TURN, 0, 18, 18, 0);
        noMove("a row", WRONG_ARGUMENT, TURN, 0, 18, 19, 0);
        noMove("a column", WRONG_ARGUMENT, TURN, 0, 18, 26, 0);
        noMove("no diagonal", WRONG_ARGUMENT, TURN, 0, 18, 28, 0);
        noMove("round the edge", WRONG_ARGUMENT, TURN, 0, 18, 39, 0);
        noMove("the own bishop", WRONG_ARGUMENT, FRESH, 0, 1, 6, 0);
    }

    private static void noPromise(String why, Class<?> want, Maker maker, int... n) {
        refused("promise: " + why, want, maker, x -> x.promise(n[0], n[1], n[2], n[3], n[4], n[5]));
    }

    private static void promise() {
        Check.about("Throws `IndexOutOfBoundsException` if there is no such player, pass or square");
        int[] right = {1, 0, 18, 27, 42, 35};
        int[] beyond = {2, 2, 64, 64, 64, 64};
        for (int i = 0; i < 6; i++) {
            for (int wrong : new int[] {-1, beyond[i], MIN, MAX}) {
                int[] n = right.clone();
                n[i] = wrong;
                noPromise("number " + i + " is " + wrong, NO_SUCH_THING, TURN, n);
                // on a full post, at the own turn and with wrong moves too
                int[] m = {1, 0, 0, 0, 0, 0};
                m[i] = wrong;
                noPromise("number " + i + " is " + wrong, NO_SUCH_THING, FULL, m);
            }
        }
        noPromise("no square", NO_SUCH_THING, FRESH, 1, 0, 4, 36, 31, 26);
        noPromise("no pass when it is over", NO_SUCH_THING, OVER, 1, 1, 1, 8, 63, 54);
        Check.about("Throws `IllegalStateException` if the game is over on the player's board, or it is the player's turn, or "
                + "the player already wrote a promise with this number, or 80 letters exist");
        noPromise("the game is over", WRONG_STATE, OVER, 1, 0, 1, 8, 63, 54);
        noPromise("the game is over", WRONG_STATE, OVER, 0, 0, 63, 54, 1, 8);
        noPromise("the own turn", WRONG_STATE, TURN, 0, 0, 42, 35, 18, 27);
        noPromise("the own turn, and no way", WRONG_STATE, TURN, 0, 0, 42, 43, 18, 27);
        noPromise("the number 3 again", WRONG_STATE, MIDGAME, 0, 0, 56, 42, 9, 0);
        noPromise("the number 3 again, and no way", WRONG_STATE, MIDGAME, 0, 0, 56, 57, 9, 0);
        noPromise("80 letters", WRONG_STATE, FULL, 0, 0, 56, 49, 9, 18);
        noPromise("80 letters, and no way", WRONG_STATE, FULL, 0, 0, 56, 57, 9, 18);
        noPromise("80 letters, and the own turn", WRONG_STATE, FULL, 1, 0, 9, 18, 56, 49);
        Check.about("Throws `IllegalArgumentException` if the other player could not make the expected move on the player's "
                + "board, or the game would be over after it, or the player could not make the reply after it");
        noPromise("no bishop to expect", WRONG_ARGUMENT, TURN, 1, 0, 0, 9, 42, 35);
        noPromise("the own bishop expected", WRONG_ARGUMENT, TURN, 1, 0, 42, 35, 35, 28);
        noPromise("no way to expect", WRONG_ARGUMENT, TURN, 1, 0, 18, 26, 42, 35);
        noPromise("no bishop to reply", WRONG_ARGUMENT, TURN, 1, 0, 18, 27, 41, 34);
        noPromise("the other's bishop replies", WRONG_ARGUMENT, TURN, 1, 0, 18, 27, 27, 36);
        noPromise("no way to reply", WRONG_ARGUMENT, TURN, 1, 0, 18, 27, 42, 34);
        noPromise("over by a capture", WRONG_ARGUMENT, RefusedTest::beforeTheLastCapture, 1, 0, 0, 63, 63, 54);
        noPromise("over by the limit", WRONG_ARGUMENT, RefusedTest::beforeTheLimit, 1, 0, 0, 9, 56, 49);
    }

    private static MulePostBishops beforeTheLastCapture() {
        MulePostBishops x = Check.start("game 8 60;bishop 0 0 0;bishop 0 0 1;bishop 1 7 7;pass 1 1 1;");
        x.addMule(0, 0);
        return x;
    }

    private static MulePostBishops beforeTheLimit() {
        MulePostBishops x = Check.start("game 8 1;bishop 0 0 0;bishop 1 7 0;pass 1 1 1;");
        x.addMule(0, 0);
        return x;
    }

    private static void resend() {
        Check.about("Throws `IndexOutOfBoundsException` if there is no such letter or pass");
        for (int letter : new int[] {-1, 6, 79, 80, MIN, MAX}) {
            refused("resend(" + letter + ", 0)", NO_SUCH_THING, MIDGAME, x -> x.resend(letter, 0));
        }
        for (int pass : new int[] {-1, 2, 3, 4, MIN, MAX}) {
            refused("resend(0, " + pass + ")", NO_SUCH_THING, MIDGAME, x -> x.resend(0, pass));
            refused("resend(0, " + pass + ") on a full post", NO_SUCH_THING, FULL, x -> x.resend(0, pass));
        }
        refused("resend(0, 0) at first", NO_SUCH_THING, FRESH, x -> x.resend(0, 0));
        refused("resend(80, 0) on a full post", NO_SUCH_THING, FULL, x -> x.resend(80, 0));
        refused("resend(-1, 0) on a full post", NO_SUCH_THING, FULL, x -> x.resend(-1, 0));
        Check.about("Throws `IllegalStateException` if 80 letters exist");
        refused("resend(0, 0)", WRONG_STATE, FULL, x -> x.resend(0, 0));
        refused("resend(79, 1)", WRONG_STATE, FULL, x -> x.resend(79, 1));
    }

    private static void advance() {
        Check.about("Throws `IllegalArgumentException` if days is out of range");
        for (int days : new int[] {0, 61, -1, MIN, MAX}) {
            refused("advance(" + days + ")", WRONG_ARGUMENT, MIDGAME, x -> x.advance(days));
            refused("advance(" + days + ")", WRONG_ARGUMENT, LATE, x -> x.advance(days));
        }
        Check.about("Throws `IllegalStateException` if the day would be greater than 9999");
        refused("advance(10)", WRONG_STATE, LATE, x -> x.advance(10));
        refused("advance(60)", WRONG_STATE, LATE, x -> x.advance(60));
    }

    private static void addMule() {
        Check.about("Throws `IndexOutOfBoundsException` if there is no such pass or side");
        for (int wrong : NO_PLAYERS) {
            refused("addMule(" + wrong + ", 1)", NO_SUCH_THING, FRESH, x -> x.addMule(wrong, 1));
            refused("addMule(1, " + wrong + ")", NO_SUCH_THING, FRESH, x -> x.addMule(1, wrong));
        }
        refused("addMule(0, 2)", NO_SUCH_THING, LATE, x -> x.addMule(0, 2));
        Check.about("Throws `IllegalStateException` if 9 mules or more are in the stable");
        refused("nine mules and a tenth", WRONG_STATE, MIDGAME, x -> x.addMule(0, 0));
        // all letters of a full post went over pass 1, on which there were nine mules on each side
        refused("eighteen mules and one more", WRONG_STATE, FULL, x -> x.addMule(1, 1));
    }

    private static void setSnow() {
        Check.about("Throws `IndexOutOfBoundsException` if there is no such pass or month");
        for (int depth : new int[] {0, -1, 10}) {
            for (int pass : new int[] {-1, 2, MIN, MAX}) {
                refused("setSnow(" + pass + ", 0, " + depth + ")", NO_SUCH_THING, MIDGAME, x -> x.setSnow(pass, 0, depth));
            }
            for (int month : NO_MONTHS) {
                refused("setSnow(0, " + month + ", " + depth + ")", NO_SUCH_THING, MIDGAME, x -> x.setSnow(0, month, depth));
                refused("setSnow(1, " + month + ", " + depth + ")", NO_SUCH_THING, MIDGAME, x -> x.setSnow(1, month, depth));
            }
        }
        Check.about("Throws `IllegalArgumentException` if depth is out of range");
        for (int depth : new int[] {-1, 10, MIN, MAX}) {
            refused("setSnow(0, 0, " + depth + ")", WRONG_ARGUMENT, MIDGAME, x -> x.setSnow(0, 0, depth));
            refused("setSnow(1, 11, " + depth + ")", WRONG_ARGUMENT, MIDGAME, x -> x.setSnow(1, 11, depth));
        }
    }

    private static void undoAndSlots() {
        Check.about("Throws `IllegalStateException` if no change can be undone");
        refused("undo() at first", WRONG_STATE, FRESH, x -> x.undo());
        refused("undo() after load", WRONG_STATE, RefusedTest::loaded, x -> x.undo());
        refused("undo() after restore", WRONG_STATE, RefusedTest::restored, x -> x.undo());
        refused("undo() after the eighth", WRONG_STATE, RefusedTest::undone, x -> x.undo());
        Check.about("Throws `IndexOutOfBoundsException` if there is no such slot");
        for (int slot : NO_PLAYERS) {
            refused("save(" + slot + ")", NO_SUCH_THING, MIDGAME, x -> x.save(slot));
            refused("restore(" + slot + ")", NO_SUCH_THING, MIDGAME, x -> x.restore(slot));
            refused("restore(" + slot + ") at first", NO_SUCH_THING, FRESH, x -> x.restore(slot));
        }
        Check.about("Throws `NoSuchElementException` if the slot is empty");
        refused("restore(0) at first", NO_SUCH_ELEMENT, FRESH, x -> x.restore(0));
        refused("restore(1) at first", NO_SUCH_ELEMENT, FRESH, x -> x.restore(1));
        refused("restore(0), when 1 is filled", NO_SUCH_ELEMENT, LATE, x -> x.restore(0));
        refused("restore(1), when 0 is filled", NO_SUCH_ELEMENT, FULL, x -> x.restore(1));
        refused("restore(0) after load", NO_SUCH_ELEMENT, RefusedTest::loaded, x -> x.restore(0));
        refused("restore(1) after load", NO_SUCH_ELEMENT, RefusedTest::loaded, x -> x.restore(1));
    }

    private static MulePostBishops loaded() {
        MulePostBishops x = midgame();
        x.truncate(0);
        Check.load(x, "game 5 9;bishop 0 0 0;bishop 1 4 4;pass 2 1 1;");
        return x;
    }

    private static MulePostBishops restored() {
        MulePostBishops x = midgame();
        x.restore(1);
        return x;
    }

    private static MulePostBishops undone() {
        MulePostBishops x = midgame();
        Check.same("undone changes", 8, undoAll(x));
        return x;
    }

    // ---- texts with an error

    private static void wrongTexts() {
        String[] setups = {"", "gam", "game 9 1;pass 1 1 1;", "game 4 1;bishop 0 0 0;bishop 1 0 0;pass 1 1 1;",
            "game 4 1;pass 1 1 1;pass 1 1 1;pass 1 1 1;pass 1 1 1;pass 1 1 1;", "game 4 1;pass 1 1 1;snow 0 0 9;?"};
        Check.about("With an error the game stays as it is.");
        for (String text : setups) {
            sameGame("load() of " + text, text, x -> x.load() > 0);
        }
        Check.about("Returns the number of executed commands, or NONE if the text has an error; then the call is not a change.");
        String[] scripts = {"days", "days 61;", "mule 0 1;days 1;?", "repeat 1(repeat 1(repeat 1(days 1;););", "mule 0 1;".repeat(31)};
        for (String text : scripts) {
            sameGame("runScript() of " + text, text, x -> x.runScript() == MulePostBishops.NONE);
        }
    }

    /** A text with an error leaves everything but the text buffer and its errors. */
    private static void sameGame(String call, String text, Call action) {
        for (Maker maker : new Maker[] {FRESH, MIDGAME, FULL}) {
            for (int i = 0; i < STAGES.length - 1; i++) {
                MulePostBishops due = maker.make();
                Object dueAnswer = answer(STAGES[i], due);
                MulePostBishops x = maker.make();
                x.truncate(0);
                Check.type(x, text);
                Check.same(call, true, answer(action, x));
                Check.same("stage " + i + " after " + call, dueAnswer, answer(STAGES[i], x));
                Check.same("the picture in stage " + i + " after " + call, Picture.game(due), Picture.game(x));
            }
        }
    }
}
