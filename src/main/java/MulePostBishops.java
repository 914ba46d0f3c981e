import java.util.Arrays;
import java.util.NoSuchElementException;

/** A simulator of a correspondence game with bishops, whose letters travel on mules over mountain passes. */
public final class MulePostBishops {
    public static final int NONE = -1;
    public static final int SYNTAX = 1;
    public static final int OUT_OF_RANGE = 2;
    public static final int OCCUPIED = 3;
    public static final int TOO_MANY = 4;
    public static final int WAITING = 0;
    public static final int UNDER_WAY = 1;
    public static final int ARRIVED = 2;
    public static final int MAY_MOVE = 0;
    public static final int GAME_OVER = 1;
    public static final int NOT_POSTED = 2;
    public static final int IN_QUEUE = 3;
    public static final int ON_THE_WAY = 4;

    private static final int PLAYERS = 2;
    private static final int MIN_SIZE = 4;
    private static final int MAX_SIZE = 8;
    private static final int SQUARES = 64;
    private static final int MAX_BISHOPS = 8;
    private static final int MAX_MOVES = 60;
    private static final int MAX_PASSES = 4;
    private static final int MONTHS = 12;
    private static final int DAYS_IN_MONTH = 30;
    private static final int CLOSED = 9;
    private static final int MAX_MULES = 9;
    private static final int MAX_LETTERS = 80;
    // fastestPass looks ahead with one further letter on each pass, also when 80 letters exist
    private static final int LETTER_ROOM = MAX_LETTERS + MAX_PASSES;
    private static final int MAX_DAYS = 60;
    private static final int LAST_DAY = 9999;
    private static final int HORIZON = 400;
    private static final int MAX_TEXT = 800;
    private static final int MAX_OUTPUT = 400;
    private static final int MAX_COMMANDS = 30;
    private static final int MAX_EXECUTED = 40;
    private static final int MAX_UNDO = 8;

    // what a call would throw, known before anything is changed
    private static final int FINE = 0;
    private static final int NO_SUCH_THING = 1;
    private static final int WRONG_STATE = 2;
    private static final int WRONG_ARGUMENT = 3;

    private static final String FIRST_SETUP =
            "game 6 40; bishop 0 0 1; bishop 0 0 4; bishop 0 1 0; bishop 1 5 1; bishop 1 5 4; bishop 1 4 5; pass 3 1 1; pass 5 2 0; snow 0 0 4; snow 0 1 9; snow 1 1 2;";

    private final Text text = new Text();
    private final Script script = new Script();
    private final Output output = new Output();
    private final Game game = new Game();
    // the game of a forecast, or of a setup that may still turn out to be wrong
    private final Game draft = new Game();
    private final History history = new History();
    private final Game slot0 = new Game();
    private final Game slot1 = new Game();
    private boolean filled0;
    private boolean filled1;
    private int lastError;
    private int lastErrorAt = NONE;

    public MulePostBishops() {
        for (int i = 0; i < FIRST_SETUP.length(); i++) {
            text.add(FIRST_SETUP.charAt(i));
        }
        readSetup();
        game.copyFrom(draft);
        text.clear();
    }

    // ---- texts

    public int append(int a, int b, int c, int d, int e) throws IllegalStateException {
        int added = bytesIn(a) + bytesIn(b) + bytesIn(c) + bytesIn(d) + bytesIn(e);
        if (text.length() + added > MAX_TEXT) {
            throw new IllegalStateException("the text buffer would hold more than 800 bytes");
        }
        addBytes(a);
        addBytes(b);
        addBytes(c);
        addBytes(d);
        addBytes(e);
        return text.length();
    }

    public int truncate(int length) throws IllegalArgumentException {
        if (length < 0 || length > text.length()) {
            throw new IllegalArgumentException("length is out of range");
        }
        return text.shorten(length);
    }

    public int load() {
        readSetup();
        text.clear();
        noteError();
        if (lastError == 0) {
            game.copyFrom(draft);
            history.forget();
            filled0 = false;
            filled1 = false;
        }
        return lastError;
    }

    public int runScript() {
        script.read(text);
        text.clear();
        noteError();
        if (lastError != 0) {
            return NONE;
        }
        history.remember(game);
        int executed = 0;
        int index = 0;
        for (int step = 0; step < Script.MAX_STEPS && index < script.length() && executed < MAX_EXECUTED; step++) {
            if (script.isJump(index)) {
                index = script.jump(index);
            } else if (perform(index)) {
                executed++;
                index++;
            } else {
                return executed;
            }
        }
        return executed;
    }

    public int errorCode() {
        return lastError;
    }

    public int errorPosition() {
        return lastErrorAt;
    }

    // ---- the game

    public int boardSize() {
        return game.boardOf(0).size();
    }

    public int moveLimit() {
        return game.boardOf(0).limit();
    }

    public int day() {
        return game.today();
    }

    public int month() {
        return monthOf(game.today());
    }

    public int bishopOwner(int player, int square) throws IndexOutOfBoundsException {
        require(isPlayer(player) && game.isSquare(square));
        return game.boardOf(player).ownerOn(square);
    }

    public int bishopCount(int player, int owner) throws IndexOutOfBoundsException {
        require(isPlayer(player) && isPlayer(owner));
        return game.boardOf(player).bishopsOf(owner);
    }

    public int moveCount(int player) throws IndexOutOfBoundsException {
        require(isPlayer(player));
        return game.boardOf(player).made();
    }

    public boolean isTurn(int player) throws IndexOutOfBoundsException {
        require(isPlayer(player));
        return game.deskOf(player).mayPlay();
    }

    public boolean isOver(int player) throws IndexOutOfBoundsException {
        require(isPlayer(player));
        return game.boardOf(player).isFinished();
    }

    public int winner(int player) throws IndexOutOfBoundsException {
        require(isPlayer(player));
        Board board = game.boardOf(player);
        int lead = board.bishopsOf(0) - board.bishopsOf(1);
        if (!board.isFinished() || lead == 0) {
            return NONE;
        }
        return lead > 0 ? 0 : 1;
    }

    public boolean canMove(int player, int from, int to) throws IndexOutOfBoundsException {
        require(isPlayer(player) && game.isSquare(from) && game.isSquare(to));
        return game.boardOf(player).canReach(from, to);
    }

    public int mobility(int player, int owner) throws IndexOutOfBoundsException {
        require(isPlayer(player) && isPlayer(owner));
        return game.boardOf(player).waysOf(owner);
    }

    public int movedFrom(int player, int number) throws IndexOutOfBoundsException, NoSuchElementException {
        return startOf(appliedMove(player, number));
    }

    public int movedTo(int player, int number) throws IndexOutOfBoundsException, NoSuchElementException {
        return endOf(appliedMove(player, number));
    }

    public int storedMoves(int player) throws IndexOutOfBoundsException {
        require(isPlayer(player));
        return game.deskOf(player).storedCount();
    }

    public boolean areBoardsEqual() {
        return game.boardsAgree();
    }

    // ---- the post

    public int passCount() {
        return game.passes().count();
    }

    public int snowDepth(int pass, int month) throws IndexOutOfBoundsException {
        require(game.passes().exists(pass) && isMonth(month));
        return game.passes().snowIn(pass, month);
    }

    public int travelDays(int pass) throws IndexOutOfBoundsException {
        require(game.passes().exists(pass));
        return game.passes().daysOver(pass, monthOf(game.today()));
    }

    public int mules(int pass, int side) throws IndexOutOfBoundsException {
        require(game.passes().exists(pass) && isPlayer(side));
        return game.passes().mulesAt(pass, side);
    }

    public int queueLength(int pass, int side) throws IndexOutOfBoundsException {
        require(game.passes().exists(pass) && isPlayer(side));
        return game.post().waitingAt(pass, side);
    }

    public int letterCount() {
        return game.post().count();
    }

    public int writer(int letter) throws IndexOutOfBoundsException {
        require(game.post().exists(letter));
        return game.post().writerOf(letter);
    }

    public int letterNumber(int letter) throws IndexOutOfBoundsException {
        require(game.post().exists(letter));
        return game.post().numberOf(letter);
    }

    public boolean isPromise(int letter) throws IndexOutOfBoundsException {
        require(game.post().exists(letter));
        return game.post().expectedOf(letter) != NONE;
    }

    public int letterState(int letter) throws IndexOutOfBoundsException {
        require(game.post().exists(letter));
        return game.post().stateOf(letter);
    }

    public int awaitedLetter(int player) throws IndexOutOfBoundsException {
        require(isPlayer(player));
        return game.awaitedBy(player);
    }

    public int reasonToWait(int player) throws IndexOutOfBoundsException {
        require(isPlayer(player));
        if (game.deskOf(player).mayPlay()) {
            return MAY_MOVE;
        }
        if (game.boardOf(player).isFinished()) {
            return GAME_OVER;
        }
        int letter = game.awaitedBy(player);
        if (letter == NONE) {
            return NOT_POSTED;
        }
        return game.post().stateOf(letter) == WAITING ? IN_QUEUE : ON_THE_WAY;
    }

    // ---- statistics

    public int duplicateCount() {
        return game.duplicates();
    }

    public int keptPromises(int player) throws IndexOutOfBoundsException {
        require(isPlayer(player));
        return game.deskOf(player).keptCount();
    }

    public int longestWait(int player) throws IndexOutOfBoundsException {
        require(isPlayer(player));
        return game.deskOf(player).longest();
    }

    public double meanWait(int player) throws IndexOutOfBoundsException {
        require(isPlayer(player));
        Desk desk = game.deskOf(player);
        int waits = desk.waits();
        return waits == 0 ? 0.0 : (double) desk.waitSum() / (double) waits;
    }

    public float meanTravel() {
        int arrived = game.post().arrivedCount();
        return arrived == 0 ? 0.0f : (float) game.post().travelSum() / (float) arrived;
    }

    public int contradictions() {
        return game.flaws();
    }

    // ---- forecasts

    public int arrivalDay(int letter) throws IndexOutOfBoundsException {
        require(game.post().exists(letter));
        if (game.post().stateOf(letter) == ARRIVED) {
            return game.post().arrivalOf(letter);
        }
        // letters travel alike whatever they say, so the post alone is looked at
        Post ahead = draft.post();
        ahead.copyFrom(game.post());
        for (int days = 1; days <= HORIZON; days++) {
            ahead.passDay(game.today() + days);
            if (ahead.stateOf(letter) == ARRIVED) {
                return game.today() + days;
            }
        }
        return NONE;
    }

    public int daysUntilTurn(int player) throws IndexOutOfBoundsException {
        require(isPlayer(player));
        if (game.deskOf(player).mayPlay()) {
            return 0;
        }
        draft.copyFrom(game);
        // once every letter has arrived, days change nothing any more
        for (int days = 1; days <= HORIZON && !draft.post().isIdle(); days++) {
            draft.passDay();
            if (draft.deskOf(player).mayPlay()) {
                return days;
            }
        }
        return NONE;
    }

    public int daysUntilEqual() {
        if (game.boardsAgree()) {
            return 0;
        }
        draft.copyFrom(game);
        for (int days = 1; days <= HORIZON && !draft.post().isIdle(); days++) {
            draft.passDay();
            if (draft.boardsAgree()) {
                return days;
            }
        }
        return NONE;
    }

    public int fastestPass(int player) throws IndexOutOfBoundsException {
        require(isPlayer(player));
        Post ahead = draft.post();
        ahead.copyFrom(game.post());
        int firstLetter = ahead.count();
        int passCount = game.passes().count();
        // the passes have queues and mules of their own, so the further letters do not disturb each other
        for (int pass = 0; pass < passCount; pass++) {
            ahead.add(player, 0, NONE, NONE, pass, game.today());
        }
        for (int days = 1; days <= HORIZON; days++) {
            ahead.passDay(game.today() + days);
            for (int pass = 0; pass < passCount; pass++) {
                if (ahead.stateOf(firstLetter + pass) == ARRIVED) {
                    return pass;
                }
            }
        }
        return NONE;
    }

    // ---- changes

    public int move(int player, int from, int to, int pass)
            throws IndexOutOfBoundsException, IllegalStateException, IllegalArgumentException {
        refuse(game.moveFault(player, from, to, pass));
        history.remember(game);
        return game.makeMove(player, from, to, pass);
    }

    public int promise(int player, int pass, int expectedFrom, int expectedTo, int replyFrom, int replyTo)
            throws IndexOutOfBoundsException, IllegalStateException, IllegalArgumentException {
        refuse(game.promiseFault(player, pass, expectedFrom, expectedTo, replyFrom, replyTo));
        history.remember(game);
        return game.makePromise(player, pass, moveOf(expectedFrom, expectedTo), moveOf(replyFrom, replyTo));
    }

    public int resend(int letter, int pass) throws IndexOutOfBoundsException, IllegalStateException {
        refuse(game.copyFault(letter, pass));
        history.remember(game);
        return game.makeCopy(letter, pass);
    }

    public int advance(int days) throws IllegalArgumentException, IllegalStateException {
        refuse(game.daysFault(days));
        history.remember(game);
        return game.letDaysPass(days);
    }

    public int addMule(int pass, int side) throws IndexOutOfBoundsException, IllegalStateException {
        refuse(game.muleFault(pass, side));
        history.remember(game);
        return game.passes().bringMule(pass, side);
    }

    public int setSnow(int pass, int month, int depth) throws IndexOutOfBoundsException, IllegalArgumentException {
        refuse(game.snowFault(pass, month, depth));
        history.remember(game);
        return game.passes().changeSnow(pass, month, depth);
    }

    // ---- output, undo and slots

    public int writeBoard(int player) throws IndexOutOfBoundsException {
        require(isPlayer(player));
        output.showBoard(game.boardOf(player));
        return output.length();
    }

    public int writeMoves(int player) throws IndexOutOfBoundsException {
        require(isPlayer(player));
        output.listMoves(game.boardOf(player));
        return output.length();
    }

    public int outputByte(int index) {
        return output.byteAt(index);
    }

    public int undoCount() {
        return history.count();
    }

    public int undo() throws IllegalStateException {
        if (history.count() == 0) {
            throw new IllegalStateException("no change can be undone");
        }
        history.takeBack(game);
        return history.count();
    }

    public int save(int slot) throws IndexOutOfBoundsException {
        require(isSlot(slot));
        slotOf(slot).copyFrom(game);
        if (slot == 0) {
            filled0 = true;
        } else {
            filled1 = true;
        }
        return game.today();
    }

    public int restore(int slot) throws IndexOutOfBoundsException, NoSuchElementException {
        require(isSlot(slot));
        boolean filled = slot == 0 ? filled0 : filled1;
        if (!filled) {
            throw new NoSuchElementException("the slot is empty");
        }
        game.copyFrom(slotOf(slot));
        history.forget();
        return game.today();
    }

    // ---- exceptions

    private static void require(boolean exists) {
        if (!exists) {
            throw new IndexOutOfBoundsException("there is no such thing");
        }
    }

    private static void refuse(int fault) {
        if (fault == NO_SUCH_THING) {
            throw new IndexOutOfBoundsException("there is no such thing");
        }
        if (fault == WRONG_STATE) {
            throw new IllegalStateException("this is not possible now");
        }
        if (fault == WRONG_ARGUMENT) {
            throw new IllegalArgumentException("this is not allowed");
        }
    }

    private int appliedMove(int player, int number) {
        require(isPlayer(player));
        int move = game.boardOf(player).moveAt(number);
        if (move == NONE) {
            throw new NoSuchElementException("no move with this number was applied");
        }
        return move;
    }

    // ---- small helpers

    /** Reads a row without ever leaving it. */
    private static int at(int[] row, int index) {
        return index >= 0 && index < row.length ? row[index] : NONE;
    }

    /** Writes to a row without ever leaving it. */
    private static void put(int[] row, int index, int value) {
        if (index >= 0 && index < row.length) {
            row[index] = value;
        }
    }

    private static void copyRow(int[] from, int[] to) {
        System.arraycopy(from, 0, to, 0, Math.min(from.length, to.length));
    }

    private static boolean isPlayer(int player) {
        return player == 0 || player == 1;
    }

    private static boolean isMonth(int month) {
        return month >= 0 && month < MONTHS;
    }

    private static boolean isSlot(int slot) {
        return slot == 0 || slot == 1;
    }

    private static int monthOf(int day) {
        return day / DAYS_IN_MONTH % MONTHS;
    }

    /** The player who makes the move with this number. */
    private static int moverOf(int number) {
        return number % 2 == 1 ? 0 : 1;
    }

    /** A move as one number, so that two moves are equal if their numbers are. */
    private static int moveOf(int from, int to) {
        return from * SQUARES + to;
    }

    private static int startOf(int move) {
        return move / SQUARES;
    }

    private static int endOf(int move) {
        return move % SQUARES;
    }

    private Game slotOf(int slot) {
        return slot == 0 ? slot0 : slot1;
    }

    private static int bytesIn(int four) {
        int count = 0;
        for (int shift = 24; shift >= 0; shift -= 8) {
            if ((four >>> shift & 255) != 0) {
                count++;
            }
        }
        return count;
    }

    private void addBytes(int four) {
        for (int shift = 24; shift >= 0; shift -= 8) {
            int one = four >>> shift & 255;
            if (one != 0) {
                text.add(one);
            }
        }
    }

    private void noteError() {
        lastError = text.error();
        lastErrorAt = text.errorAt();
    }

    // ---- setups

    /** Reads the text as a setup into the draft, so that a wrong setup leaves the game alone. */
    private void readSetup() {
        text.begin();
        text.expectWord("game");
        int size = text.number(MIN_SIZE, MAX_SIZE);
        int limit = text.number(1, MAX_MOVES);
        text.expectSign(';');
        draft.clear(size, limit);
        for (int i = 0; i < MAX_TEXT && text.skipWord("bishop"); i++) {
            readBishop(size);
        }
        text.expectWord("pass");
        readPass();
        for (int i = 0; i < MAX_TEXT && text.isWord("pass"); i++) {
            if (draft.passes().count() >= MAX_PASSES) {
                text.fail(TOO_MANY);
            }
            text.skipWord("pass");
            readPass();
        }
        for (int i = 0; i < MAX_TEXT && text.skipWord("snow"); i++) {
            readSnow();
        }
        text.expectEnd();
    }

    private void readBishop(int size) {
        int player = text.number(0, PLAYERS - 1);
        if (draft.boardOf(0).bishopsOf(player) >= MAX_BISHOPS) {
            text.failBefore(TOO_MANY);
        }
        int row = text.number(0, size - 1);
        int column = text.number(0, size - 1);
        int square = row * size + column;
        if (draft.boardOf(0).ownerOn(square) != NONE) {
            text.failBefore(OCCUPIED);
        }
        text.expectSign(';');
        if (!text.hasError()) {
            draft.boardOf(0).place(player, square);
            draft.boardOf(1).place(player, square);
        }
    }

    private void readPass() {
        int baseDays = text.number(1, 9);
        int mules0 = text.number(0, MAX_MULES);
        int mules1 = text.number(0, MAX_MULES);
        text.expectSign(';');
        if (!text.hasError()) {
            draft.passes().open(baseDays, mules0, mules1);
        }
    }

    private void readSnow() {
        int pass = text.number(0, draft.passes().count() - 1);
        int month = text.number(0, MONTHS - 1);
        int depth = text.number(0, CLOSED);
        text.expectSign(';');
        if (!text.hasError()) {
            draft.passes().changeSnow(pass, month, depth);
        }
    }

    // ---- running scripts

    /** Executes one command, or answers false and changes nothing if its method would throw. */
    private boolean perform(int index) {
        int a = script.argument(index, 0);
        int b = script.argument(index, 1);
        int c = script.argument(index, 2);
        int d = script.argument(index, 3);
        switch (script.commandAt(index)) {
            case Script.MOVE:
                if (game.moveFault(a, b, c, d) != FINE) {
                    return false;
                }
                game.makeMove(a, b, c, d);
                return true;
            case Script.PROMISE:
                return performPromise(index);
            case Script.RESEND:
                if (game.copyFault(a, b) != FINE) {
                    return false;
                }
                game.makeCopy(a, b);
                return true;
            case Script.DAYS:
                if (game.daysFault(a) != FINE) {
                    return false;
                }
                game.letDaysPass(a);
                return true;
            case Script.MULE:
                if (game.muleFault(a, b) != FINE) {
                    return false;
                }
                game.passes().bringMule(a, b);
                return true;
            case Script.SNOW:
                if (game.snowFault(a, b, c) != FINE) {
                    return false;
                }
                game.passes().changeSnow(a, b, c);
                return true;
            default:
                return false;
        }
    }

    private boolean performPromise(int index) {
        int player = script.argument(index, 0);
        int pass = script.argument(index, 1);
        int expectedFrom = script.argument(index, 2);
        int expectedTo = script.argument(index, 3);
        int replyFrom = script.argument(index, 4);
        int replyTo = script.argument(index, 5);
        if (game.promiseFault(player, pass, expectedFrom, expectedTo, replyFrom, replyTo) != FINE) {
            return false;
        }
        game.makePromise(player, pass, moveOf(expectedFrom, expectedTo), moveOf(replyFrom, replyTo));
        return true;
    }

    /** The text buffer, cut into tokens; it stops at the first error and keeps it. */
    private static final class Text {
        private static final int END = 0;
        private static final int WORD = 1;
        private static final int NUMBER = 2;
        private static final int SIGN = 3;
        private static final int STRANGE = 4;
        // above every range, and far from an overflow when a further digit comes
        private static final int HUGE = 1000;

        private final int[] bytes = new int[MAX_TEXT];
        private int length;
        private int kind;
        private int value;
        private int start;
        private int stop;
        private int startBefore;
        private int error;
        private int errorAt = NONE;

        int length() {
            return length;
        }

        void add(int one) {
            if (length < bytes.length) {
                put(bytes, length, one);
                length++;
            }
        }

        int shorten(int newLength) {
            int removed = length - newLength;
            length = newLength;
            return removed;
        }

        void clear() {
            length = 0;
        }

        int error() {
            return error;
        }

        int errorAt() {
            return errorAt;
        }

        boolean hasError() {
            return error != 0;
        }

        /** Goes to the first token. */
        void begin() {
            error = 0;
            errorAt = NONE;
            stop = 0;
            step();
        }

        /** Goes to the next token. */
        void step() {
            startBefore = start;
            start = stop;
            while (start < length && isBlank(at(bytes, start))) {
                start++;
            }
            stop = start;
            value = 0;
            int first = at(bytes, start);
            if (start >= length) {
                kind = END;
            } else if (isLetter(first)) {
                stepOverWord();
            } else if (isDigit(first)) {
                stepOverNumber();
            } else {
                kind = first == ';' || first == '(' || first == ')' ? SIGN : STRANGE;
                value = first;
                stop = start + 1;
            }
        }

        private void stepOverWord() {
            kind = WORD;
            while (stop < length && isLetter(at(bytes, stop))) {
                stop++;
            }
        }

        private void stepOverNumber() {
            kind = NUMBER;
            while (stop < length && isDigit(at(bytes, stop))) {
                value = Math.min(HUGE, value * 10 + at(bytes, stop) - '0');
                stop++;
            }
        }

        private static boolean isBlank(int one) {
            return one == 32 || one == 10;
        }

        private static boolean isLetter(int one) {
            return one >= 'a' && one <= 'z';
        }

        private static boolean isDigit(int one) {
            return one >= '0' && one <= '9';
        }

        /** Notes an error of the present token. */
        void fail(int code) {
            if (error == 0) {
                error = code;
                errorAt = start;
            }
        }

        /** Notes an error of the token before the present one. */
        void failBefore(int code) {
            if (error == 0) {
                error = code;
                errorAt = startBefore;
            }
        }

        boolean isEnd() {
            return error == 0 && kind == END;
        }

        boolean isWord(String word) {
            if (error != 0 || kind != WORD || stop - start != word.length()) {
                return false;
            }
            for (int i = 0; i < word.length(); i++) {
                if (at(bytes, start + i) != word.charAt(i)) {
                    return false;
                }
            }
            return true;
        }

        boolean skipWord(String word) {
            if (!isWord(word)) {
                return false;
            }
            step();
            return true;
        }

        boolean isSign(char sign) {
            return error == 0 && kind == SIGN && value == sign;
        }

        boolean skipSign(char sign) {
            if (!isSign(sign)) {
                return false;
            }
            step();
            return true;
        }

        void expectWord(String word) {
            if (isWord(word)) {
                step();
            } else {
                fail(SYNTAX);
            }
        }

        void expectSign(char sign) {
            if (isSign(sign)) {
                step();
            } else {
                fail(SYNTAX);
            }
        }

        void expectEnd() {
            if (kind != END) {
                fail(SYNTAX);
            }
        }

        /** Reads a number of a range; answers the lowest one if there is an error. */
        int number(int lowest, int highest) {
            if (kind != NUMBER) {
                fail(SYNTAX);
            } else if (value < lowest || value > highest) {
                fail(OUT_OF_RANGE);
            }
            if (error != 0) {
                return lowest;
            }
            int result = value;
            step();
            return result;
        }
    }

    /** The commands of a script in one row; a bracket ) is an entry that knows its repeat, and the other way round. */
    private static final class Script {
        static final int MOVE = 1;
        static final int PROMISE = 2;
        static final int RESEND = 3;
        static final int DAYS = 4;
        static final int MULE = 5;
        static final int SNOW = 6;
        private static final int REPEAT = 7;
        private static final int CLOSE = 8;
        private static final int ENTRIES = 2 * MAX_COMMANDS;
        private static final int MAX_ARGUMENTS = 6;
        private static final int MAX_TIMES = 20;
        private static final int MAX_DEPTH = 2;
        // brackets stand at most two deep, so no entry is passed more often than 20 times 20 times
        static final int MAX_STEPS = ENTRIES * (MAX_TIMES * MAX_TIMES + 1);

        private final int[] commands = new int[ENTRIES];
        private final int[] arguments = new int[ENTRIES * MAX_ARGUMENTS];
        private final int[] partners = new int[ENTRIES];
        private final int[] roundsLeft = new int[ENTRIES];
        private final int[] open = new int[MAX_DEPTH];
        private int length;
        private int commandCount;
        private int depth;

        int length() {
            return length;
        }

        int commandAt(int index) {
            return at(commands, index);
        }

        int argument(int index, int which) {
            return at(arguments, index * MAX_ARGUMENTS + which);
        }

        boolean isJump(int index) {
            return commandAt(index) == REPEAT || commandAt(index) == CLOSE;
        }

        /** Passes a repeat or its closing bracket; answers the entry that comes next. */
        int jump(int index) {
            int partner = at(partners, index);
            if (commandAt(index) == REPEAT) {
                put(roundsLeft, index, argument(index, 0));
                return argument(index, 0) > 0 ? index + 1 : partner + 1;
            }
            int left = at(roundsLeft, partner) - 1;
            put(roundsLeft, partner, left);
            return left > 0 ? partner + 1 : index + 1;
        }

        void read(Text text) {
            length = 0;
            commandCount = 0;
            depth = 0;
            text.begin();
            // every round reads a token at least
            for (int round = 0; round <= MAX_TEXT && !text.hasError(); round++) {
                if (depth == 0 && text.isEnd()) {
                    return;
                }
                if (depth > 0 && text.skipSign(')')) {
                    closeBracket();
                    text.expectSign(';');
                } else {
                    readCommand(text);
                }
            }
        }

        private void readCommand(Text text) {
            int command = commandOf(text);
            if (command == NONE) {
                text.fail(SYNTAX);
                return;
            }
            if (commandCount >= MAX_COMMANDS) {
                text.fail(TOO_MANY);
                return;
            }
            commandCount++;
            text.step();
            String kinds = argumentsOf(command);
            for (int i = 0; i < kinds.length(); i++) {
                char kind = kinds.charAt(i);
                put(arguments, length * MAX_ARGUMENTS + i, text.number(lowest(kind), highest(kind)));
            }
            if (command == REPEAT) {
                openBracket(text);
            } else {
                text.expectSign(';');
            }
            put(commands, length, command);
            length++;
        }

        private void openBracket(Text text) {
            if (depth >= MAX_DEPTH && text.isSign('(')) {
                text.fail(TOO_MANY);
            }
            text.expectSign('(');
            if (!text.hasError()) {
                put(open, depth, length);
                depth++;
            }
        }

        private void closeBracket() {
            depth--;
            int repeat = at(open, depth);
            put(commands, length, CLOSE);
            put(partners, length, repeat);
            put(partners, repeat, length);
            length++;
        }

        /** The command whose word the present token is. */
        private static int commandOf(Text text) {
            if (text.isWord("move")) {
                return MOVE;
            }
            if (text.isWord("promise")) {
                return PROMISE;
            }
            if (text.isWord("resend")) {
                return RESEND;
            }
            if (text.isWord("days")) {
                return DAYS;
            }
            if (text.isWord("mule")) {
                return MULE;
            }
            if (text.isWord("snow")) {
                return SNOW;
            }
            return text.isWord("repeat") ? REPEAT : NONE;
        }

        /**
         * The kinds of a command's numbers, a letter each: w a player or a side, s a square, p a pass, l a letter,
         * d a count of days, m a month, h a depth of snow, t times.
         */
        private static String argumentsOf(int command) {
            switch (command) {
                case MOVE:
                    return "wssp";
                case PROMISE:
                    return "wpssss";
                case RESEND:
                    return "lp";
                case DAYS:
                    return "d";
                case MULE:
                    return "pw";
                case SNOW:
                    return "pmh";
                default:
                    return "t";
            }
        }

        private static int lowest(char kind) {
            return kind == 'd' ? 1 : 0;
        }

        private static int highest(char kind) {
            switch (kind) {
                case 'w':
                    return PLAYERS - 1;
                case 's':
                    return SQUARES - 1;
                case 'p':
                    return MAX_PASSES - 1;
                case 'l':
                    return MAX_LETTERS - 1;
                case 'd':
                    return MAX_DAYS;
                case 'm':
                    return MONTHS - 1;
                case 'h':
                    return CLOSED;
                default:
                    return MAX_TIMES;
            }
        }
    }

    /** One copy of the board, with the moves that were applied to it. */
    private static final class Board {
        private final int[] owners = new int[SQUARES];
        private final int[] bishops = new int[PLAYERS];
        private final int[] moves = new int[MAX_MOVES + 1];
        private final int[] takes = new int[MAX_MOVES + 1];
        private int size;
        private int limit;
        private int made;
        private int captures;
        private int bishopsAtStart;

        void clear(int newSize, int newLimit) {
            size = newSize;
            limit = newLimit;
            made = 0;
            captures = 0;
            bishopsAtStart = 0;
            Arrays.fill(owners, NONE);
            Arrays.fill(bishops, 0);
        }

        void copyFrom(Board other) {
            size = other.size;
            limit = other.limit;
            made = other.made;
            captures = other.captures;
            bishopsAtStart = other.bishopsAtStart;
            copyRow(other.owners, owners);
            copyRow(other.bishops, bishops);
            copyRow(other.moves, moves);
            copyRow(other.takes, takes);
        }

        void place(int player, int square) {
            put(owners, square, player);
            put(bishops, player, at(bishops, player) + 1);
            bishopsAtStart++;
        }

        int size() {
            return size;
        }

        int limit() {
            return limit;
        }

        int made() {
            return made;
        }

        int nextNumber() {
            return made + 1;
        }

        int ownerOn(int square) {
            return at(owners, square);
        }

        int bishopsOf(int player) {
            return at(bishops, player);
        }

        boolean isFinished() {
            return made == limit || bishopsOf(0) == 0 || bishopsOf(1) == 0;
        }

        /** The applied move with a number, NONE if there is none. */
        int moveAt(int number) {
            return number >= 1 && number <= made ? at(moves, number) : NONE;
        }

        boolean tookAt(int number) {
            return at(takes, number) == 1;
        }

        boolean canReach(int from, int to) {
            int owner = ownerOn(from);
            if (owner == NONE || owner == ownerOn(to) || size < MIN_SIZE) {
                return false;
            }
            int rows = to / size - from / size;
            int columns = to % size - from % size;
            int distance = Math.abs(rows);
            if (distance == 0 || distance != Math.abs(columns)) {
                return false;
            }
            int step = (rows > 0 ? size : -size) + (columns > 0 ? 1 : -1);
            for (int i = 1; i < distance; i++) {
                if (ownerOn(from + i * step) != NONE) {
                    return false;
                }
            }
            return true;
        }

        /** Counts the moves of an owner's bishops. */
        int waysOf(int owner) {
            int ways = 0;
            int squares = size * size;
            for (int from = 0; from < squares; from++) {
                if (ownerOn(from) == owner) {
                    for (int to = 0; to < squares; to++) {
                        if (canReach(from, to)) {
                            ways++;
                        }
                    }
                }
            }
            return ways;
        }

        void play(int move) {
            int from = startOf(move);
            int to = endOf(move);
            int mover = ownerOn(from);
            int victim = ownerOn(to);
            if (victim != NONE) {
                put(bishops, victim, at(bishops, victim) - 1);
                captures++;
            }
            put(owners, from, NONE);
            put(owners, to, mover);
            made++;
            put(moves, made, move);
            put(takes, made, victim == NONE ? 0 : 1);
        }

        boolean agreesWith(Board other) {
            if (made != other.made) {
                return false;
            }
            for (int square = 0; square < SQUARES; square++) {
                if (ownerOn(square) != other.ownerOn(square)) {
                    return false;
                }
            }
            return true;
        }

        /** Counts the moves up to the smaller move count that differ from those of the other board. */
        int differencesFrom(Board other) {
            int differences = 0;
            int common = Math.min(made, other.made);
            for (int number = 1; number <= common; number++) {
                if (moveAt(number) != other.moveAt(number)) {
                    differences++;
                }
            }
            return differences;
        }

        /** Counts the bishops that neither stand on the board nor were captured. */
        int bishopsAstray() {
            int standing = 0;
            for (int square = 0; square < SQUARES; square++) {
                if (ownerOn(square) != NONE) {
                    standing++;
                }
            }
            return Math.abs(bishopsAtStart - (standing + captures));
        }
    }

    /** A player with the own board, the moves and promises that the player keeps, and the waiting times. */
    private static final class Desk {
        private final int player;
        private final Board board = new Board();
        // by move number, NONE if there is none
        private final int[] stored = new int[MAX_MOVES + 1];
        private final int[] expected = new int[MAX_MOVES + 1];
        private final int[] replies = new int[MAX_MOVES + 1];
        private int storedCount;
        private int kept;
        private int lastOwnDay;
        private int waits;
        private int waitSum;
        private int longest;

        Desk(int owner) {
            player = owner;
        }

        void clear(int size, int limit) {
            board.clear(size, limit);
            Arrays.fill(stored, NONE);
            Arrays.fill(expected, NONE);
            Arrays.fill(replies, NONE);
            storedCount = 0;
            kept = 0;
            lastOwnDay = NONE;
            waits = 0;
            waitSum = 0;
            longest = 0;
        }

        void copyFrom(Desk other) {
            board.copyFrom(other.board);
            copyRow(other.stored, stored);
            copyRow(other.expected, expected);
            copyRow(other.replies, replies);
            storedCount = other.storedCount;
            kept = other.kept;
            lastOwnDay = other.lastOwnDay;
            waits = other.waits;
            waitSum = other.waitSum;
            longest = other.longest;
        }

        Board board() {
            return board;
        }

        int storedCount() {
            return storedCount;
        }

        int keptCount() {
            return kept;
        }

        int waits() {
            return waits;
        }

        int waitSum() {
            return waitSum;
        }

        int longest() {
            return longest;
        }

        boolean mayPlay() {
            return !board.isFinished() && moverOf(board.nextNumber()) == player;
        }

        /** Tells whether the player wrote or knows a promise; by its number it is clear which of both. */
        boolean hasPromise(int number) {
            return at(replies, number) != NONE;
        }

        void keepPromise(int number, int expectedMove, int reply) {
            put(expected, number, expectedMove);
            put(replies, number, reply);
        }

        void playOwn(int move, int day) {
            board.play(move);
            lastOwnDay = day;
        }

        /** Takes in a letter that arrives; answers false if it is a duplicate. */
        boolean takeIn(int number, int move, int expectedMove) {
            if (expectedMove != NONE) {
                if (hasPromise(number)) {
                    return false;
                }
                keepPromise(number, expectedMove, move);
                return true;
            }
            if (number <= board.made() || at(stored, number) != NONE) {
                return false;
            }
            put(stored, number, move);
            storedCount++;
            return true;
        }

        /** Applies stored moves and promises as long as possible. */
        void settle(int day) {
            for (int round = 0; round <= MAX_MOVES && !board.isFinished(); round++) {
                int number = board.nextNumber();
                boolean own = moverOf(number) == player;
                int move = at(stored, number);
                if (move != NONE) {
                    put(stored, number, NONE);
                    storedCount--;
                } else if (hasPromise(number) && at(expected, number) == board.moveAt(number - 1)) {
                    move = at(replies, number);
                    kept += own ? 1 : 0;
                } else {
                    return;
                }
                board.play(move);
                if (own) {
                    lastOwnDay = day;
                } else {
                    noteWait(day);
                }
            }
        }

        private void noteWait(int day) {
            if (lastOwnDay != NONE) {
                waits++;
                waitSum += day - lastOwnDay;
                longest = Math.max(longest, day - lastOwnDay);
            }
        }
    }

    /** The passes with their snow and the mules in their stables. */
    private static final class Passes {
        private final int[] baseDays = new int[MAX_PASSES];
        private final int[] snow = new int[MAX_PASSES * MONTHS];
        private final int[] stables = new int[MAX_PASSES * PLAYERS];
        private int count;
        // the mules of the setup and the added ones
        private int mulesEver;

        void clear() {
            Arrays.fill(baseDays, 0);
            Arrays.fill(snow, 0);
            Arrays.fill(stables, 0);
            count = 0;
            mulesEver = 0;
        }

        void copyFrom(Passes other) {
            copyRow(other.baseDays, baseDays);
            copyRow(other.snow, snow);
            copyRow(other.stables, stables);
            count = other.count;
            mulesEver = other.mulesEver;
        }

        void open(int days, int mules0, int mules1) {
            put(baseDays, count, days);
            put(stables, count * PLAYERS, mules0);
            put(stables, count * PLAYERS + 1, mules1);
            mulesEver += mules0 + mules1;
            count++;
        }

        int count() {
            return count;
        }

        boolean exists(int pass) {
            return pass >= 0 && pass < count;
        }

        int snowIn(int pass, int month) {
            return at(snow, pass * MONTHS + month);
        }

        boolean isClosed(int pass, int month) {
            return snowIn(pass, month) >= CLOSED;
        }

        /** The days of a letter that leaves in this month, NONE if the pass is closed. */
        int daysOver(int pass, int month) {
            int depth = snowIn(pass, month);
            return depth >= CLOSED ? NONE : at(baseDays, pass) + depth;
        }

        int changeSnow(int pass, int month, int depth) {
            int previous = snowIn(pass, month);
            put(snow, pass * MONTHS + month, depth);
            return previous;
        }

        int mulesAt(int pass, int side) {
            return at(stables, pass * PLAYERS + side);
        }

        int bringMule(int pass, int side) {
            mulesEver++;
            changeMules(pass, side, 1);
            return mulesAt(pass, side);
        }

        void changeMules(int pass, int side, int change) {
            int stable = pass * PLAYERS + side;
            put(stables, stable, at(stables, stable) + change);
        }

        /** Counts the mules that are neither in a stable nor with a letter. */
        int mulesAstray(int withLetters) {
            int standing = 0;
            for (int i = 0; i < stables.length; i++) {
                standing += at(stables, i);
            }
            return Math.abs(mulesEver - (standing + withLetters));
        }
    }

    /**
     * The letters on their way over the passes. A letter is added when it is posted, so the letters of a queue stand
     * in the order of their numbers.
     */
    private static final class Post {
        private final Passes passes = new Passes();
        private final int[] writers = new int[LETTER_ROOM];
        private final int[] numbers = new int[LETTER_ROOM];
        private final int[] moves = new int[LETTER_ROOM];
        // the expected move of a promise, NONE for a move letter
        private final int[] expectations = new int[LETTER_ROOM];
        private final int[] routes = new int[LETTER_ROOM];
        private final int[] states = new int[LETTER_ROOM];
        private final int[] daysLeft = new int[LETTER_ROOM];
        private final int[] postDays = new int[LETTER_ROOM];
        private final int[] arrivalDays = new int[LETTER_ROOM];
        // the letters that are under way, in the order in which they left
        private final int[] road = new int[LETTER_ROOM];
        private final int[] arrivals = new int[LETTER_ROOM];
        private final int[] waiting = new int[MAX_PASSES * PLAYERS];
        private int count;
        private int onRoad;
        private int arrivalCount;
        private int arrivedCount;
        private int travelSum;

        void clear() {
            passes.clear();
            Arrays.fill(waiting, 0);
            count = 0;
            onRoad = 0;
            arrivedCount = 0;
            travelSum = 0;
        }

        void copyFrom(Post other) {
            passes.copyFrom(other.passes);
            copyRow(other.writers, writers);
            copyRow(other.numbers, numbers);
            copyRow(other.moves, moves);
            copyRow(other.expectations, expectations);
            copyRow(other.routes, routes);
            copyRow(other.states, states);
            copyRow(other.daysLeft, daysLeft);
            copyRow(other.postDays, postDays);
            copyRow(other.arrivalDays, arrivalDays);
            copyRow(other.road, road);
            copyRow(other.waiting, waiting);
            count = other.count;
            onRoad = other.onRoad;
            arrivedCount = other.arrivedCount;
            travelSum = other.travelSum;
        }

        Passes passes() {
            return passes;
        }

        int count() {
            return count;
        }

        boolean exists(int letter) {
            return letter >= 0 && letter < count;
        }

        boolean isFull() {
            return count >= MAX_LETTERS;
        }

        /** Tells whether no letter waits or is under way. */
        boolean isIdle() {
            return arrivedCount == count;
        }

        int writerOf(int letter) {
            return at(writers, letter);
        }

        int numberOf(int letter) {
            return at(numbers, letter);
        }

        int moveIn(int letter) {
            return at(moves, letter);
        }

        int expectedOf(int letter) {
            return at(expectations, letter);
        }

        int stateOf(int letter) {
            return at(states, letter);
        }

        int arrivalOf(int letter) {
            return at(arrivalDays, letter);
        }

        int waitingAt(int pass, int side) {
            return at(waiting, pass * PLAYERS + side);
        }

        int onRoad() {
            return onRoad;
        }

        int arrivedCount() {
            return arrivedCount;
        }

        int travelSum() {
            return travelSum;
        }

        /** A letter that arrived on the latest day. */
        int arrival(int index) {
            return at(arrivals, index);
        }

        /** Posts a letter and answers it. */
        int add(int from, int number, int move, int expectedMove, int pass, int day) {
            int letter = count;
            put(writers, letter, from);
            put(numbers, letter, number);
            put(moves, letter, move);
            put(expectations, letter, expectedMove);
            put(routes, letter, pass);
            put(states, letter, WAITING);
            put(postDays, letter, day);
            changeWaiting(pass, from, 1);
            count++;
            return letter;
        }

        private void changeWaiting(int pass, int side, int change) {
            int queue = pass * PLAYERS + side;
            put(waiting, queue, at(waiting, queue) + change);
        }

        /** Lets the second and the third step of a day happen; answers how many letters arrived. */
        int passDay(int day) {
            int month = monthOf(day);
            int staying = 0;
            arrivalCount = 0;
            for (int i = 0; i < onRoad; i++) {
                int letter = at(road, i);
                int left = at(daysLeft, letter);
                if (!passes.isClosed(at(routes, letter), month)) {
                    left--;
                    put(daysLeft, letter, left);
                }
                if (left == 0) {
                    arrive(letter, day);
                } else {
                    put(road, staying, letter);
                    staying++;
                }
            }
            onRoad = staying;
            for (int pass = 0; pass < passes.count(); pass++) {
                int days = passes.daysOver(pass, month);
                for (int side = 0; side < PLAYERS && days != NONE; side++) {
                    sendOff(pass, side, days);
                }
            }
            return arrivalCount;
        }

        private void arrive(int letter, int day) {
            put(states, letter, ARRIVED);
            put(arrivalDays, letter, day);
            arrivedCount++;
            travelSum += day - at(postDays, letter);
            passes.changeMules(at(routes, letter), 1 - writerOf(letter), 1);
            put(arrivals, arrivalCount, letter);
            arrivalCount++;
        }

        /** Lets the letters of a queue leave as long as there are mules. */
        private void sendOff(int pass, int side, int days) {
            for (int letter = 0; letter < count; letter++) {
                if (waitingAt(pass, side) <= 0 || passes.mulesAt(pass, side) <= 0) {
                    return;
                }
                if (stateOf(letter) == WAITING && at(routes, letter) == pass && writerOf(letter) == side) {
                    put(states, letter, UNDER_WAY);
                    put(daysLeft, letter, days);
                    put(road, onRoad, letter);
                    onRoad++;
                    changeWaiting(pass, side, -1);
                    passes.changeMules(pass, side, -1);
                }
            }
        }
    }

    /** Everything that undo and the slots restore. */
    private static final class Game {
        private final Desk desk0 = new Desk(0);
        private final Desk desk1 = new Desk(1);
        private final Post post = new Post();
        private final Board trial = new Board();
        private int today;
        private int duplicates;

        void clear(int size, int limit) {
            desk0.clear(size, limit);
            desk1.clear(size, limit);
            post.clear();
            today = 0;
            duplicates = 0;
        }

        void copyFrom(Game other) {
            desk0.copyFrom(other.desk0);
            desk1.copyFrom(other.desk1);
            post.copyFrom(other.post);
            today = other.today;
            duplicates = other.duplicates;
        }

        int today() {
            return today;
        }

        int duplicates() {
            return duplicates;
        }

        Desk deskOf(int player) {
            return player == 0 ? desk0 : desk1;
        }

        Board boardOf(int player) {
            return deskOf(player).board();
        }

        Post post() {
            return post;
        }

        Passes passes() {
            return post.passes();
        }

        boolean isSquare(int square) {
            int size = boardOf(0).size();
            return square >= 0 && square < size * size;
        }

        boolean boardsAgree() {
            return boardOf(0).agreesWith(boardOf(1));
        }

        int awaitedBy(int player) {
            int number = boardOf(player).nextNumber();
            for (int letter = 0; letter < post.count(); letter++) {
                if (post.writerOf(letter) != player && post.stateOf(letter) != ARRIVED
                        && post.numberOf(letter) == number) {
                    return letter;
                }
            }
            return NONE;
        }

        int flaws() {
            return boardOf(0).differencesFrom(boardOf(1)) + boardOf(0).bishopsAstray() + boardOf(1).bishopsAstray()
                    + passes().mulesAstray(post.onRoad());
        }

        int moveFault(int player, int from, int to, int pass) {
            if (!isPlayer(player) || !isSquare(from) || !isSquare(to) || !passes().exists(pass)) {
                return NO_SUCH_THING;
            }
            if (!deskOf(player).mayPlay() || post.isFull()) {
                return WRONG_STATE;
            }
            Board board = boardOf(player);
            return board.ownerOn(from) == player && board.canReach(from, to) ? FINE : WRONG_ARGUMENT;
        }

        int makeMove(int player, int from, int to, int pass) {
            Desk desk = deskOf(player);
            int number = desk.board().nextNumber();
            int move = moveOf(from, to);
            desk.playOwn(move, today);
            post.add(player, number, move, NONE, pass, today);
            desk.settle(today);
            return number;
        }

        int promiseFault(int player, int pass, int expectedFrom, int expectedTo, int replyFrom, int replyTo) {
            if (!isPlayer(player) || !passes().exists(pass) || !isSquare(expectedFrom) || !isSquare(expectedTo)
                    || !isSquare(replyFrom) || !isSquare(replyTo)) {
                return NO_SUCH_THING;
            }
            Board board = boardOf(player);
            if (board.isFinished() || deskOf(player).mayPlay()
                    || deskOf(player).hasPromise(board.nextNumber() + 1) || post.isFull()) {
                return WRONG_STATE;
            }
            if (board.ownerOn(expectedFrom) != 1 - player || !board.canReach(expectedFrom, expectedTo)) {
                return WRONG_ARGUMENT;
            }
            trial.copyFrom(board);
            trial.play(moveOf(expectedFrom, expectedTo));
            return !trial.isFinished() && trial.ownerOn(replyFrom) == player && trial.canReach(replyFrom, replyTo)
                    ? FINE : WRONG_ARGUMENT;
        }

        int makePromise(int player, int pass, int expectedMove, int reply) {
            int number = boardOf(player).nextNumber() + 1;
            deskOf(player).keepPromise(number, expectedMove, reply);
            post.add(player, number, reply, expectedMove, pass, today);
            return number;
        }

        int copyFault(int letter, int pass) {
            if (!post.exists(letter) || !passes().exists(pass)) {
                return NO_SUCH_THING;
            }
            return post.isFull() ? WRONG_STATE : FINE;
        }

        int makeCopy(int letter, int pass) {
            return post.add(post.writerOf(letter), post.numberOf(letter), post.moveIn(letter),
                    post.expectedOf(letter), pass, today);
        }

        int daysFault(int days) {
            if (days < 1 || days > MAX_DAYS) {
                return WRONG_ARGUMENT;
            }
            return today + days > LAST_DAY ? WRONG_STATE : FINE;
        }

        int letDaysPass(int days) {
            int arrived = 0;
            for (int i = 0; i < days; i++) {
                arrived += passDay();
            }
            return arrived;
        }

        /** Lets one day pass; answers how many letters arrived. */
        int passDay() {
            today++;
            int arrived = post.passDay(today);
            for (int i = 0; i < arrived; i++) {
                int letter = post.arrival(i);
                Desk desk = deskOf(1 - post.writerOf(letter));
                if (!desk.takeIn(post.numberOf(letter), post.moveIn(letter), post.expectedOf(letter))) {
                    duplicates++;
                }
                desk.settle(today);
            }
            return arrived;
        }

        int muleFault(int pass, int side) {
            if (!passes().exists(pass) || !isPlayer(side)) {
                return NO_SUCH_THING;
            }
            return passes().mulesAt(pass, side) >= MAX_MULES ? WRONG_STATE : FINE;
        }

        int snowFault(int pass, int month, int depth) {
            if (!passes().exists(pass) || !isMonth(month)) {
                return NO_SUCH_THING;
            }
            return depth < 0 || depth > CLOSED ? WRONG_ARGUMENT : FINE;
        }
    }

    /** The games before the latest changes, in a ring of games that are used again and again. */
    private static final class History {
        private final Game[] past = new Game[MAX_UNDO];
        private int count;
        private int newest;

        History() {
            for (int i = 0; i < past.length; i++) {
                past[i] = new Game();
            }
        }

        int count() {
            return count;
        }

        void forget() {
            count = 0;
        }

        void remember(Game game) {
            newest = newest + 1 < past.length ? newest + 1 : 0;
            count = Math.min(count + 1, past.length);
            Game kept = newestGame();
            if (kept != null) {
                kept.copyFrom(game);
            }
        }

        void takeBack(Game game) {
            Game kept = newestGame();
            if (kept != null) {
                game.copyFrom(kept);
            }
            newest = newest > 0 ? newest - 1 : past.length - 1;
            count--;
        }

        private Game newestGame() {
            return newest >= 0 && newest < past.length ? past[newest] : null;
        }
    }

    /** The output of the two methods that write. */
    private static final class Output {
        private final int[] bytes = new int[MAX_OUTPUT];
        private int length;

        int length() {
            return length;
        }

        int byteAt(int index) {
            return index < length ? at(bytes, index) : NONE;
        }

        private void add(int one) {
            put(bytes, length, one);
            length++;
        }

        private void addNumber(int number) {
            if (number >= 10) {
                add('0' + number / 10);
            }
            add('0' + number % 10);
        }

        void showBoard(Board board) {
            length = 0;
            int size = board.size();
            for (int row = size - 1; row >= 0; row--) {
                for (int column = 0; column < size; column++) {
                    int owner = board.ownerOn(row * size + column);
                    add(owner == NONE ? '.' : owner == 0 ? 'w' : 'b');
                }
                if (row > 0) {
                    add('/');
                }
            }
        }

        void listMoves(Board board) {
            length = 0;
            for (int number = 1; number <= board.made(); number++) {
                int move = board.moveAt(number);
                if (number > 1) {
                    add(' ');
                }
                addNumber(startOf(move));
                add(board.tookAt(number) ? 'x' : '-');
                addNumber(endOf(move));
            }
        }
    }
}
