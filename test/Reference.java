import java.util.ArrayList;
import java.util.Arrays;
import java.util.Collections;
import java.util.List;
import java.util.NoSuchElementException;
import java.util.TreeMap;

/**
 * The document once more, written as plainly as it reads and with the whole Java library: lists for queues, a tree for
 * a script, a deep copy for every look ahead. FuzzTest compares the class with it.
 */
public final class Reference {
    static final class Parcel {
        int writer;
        int number;
        int from;
        int to;
        boolean promise;
        int expectedFrom;
        int expectedTo;
        int pass;
        int state;
        int left;
        int posted;
        int arrived;

        Parcel copy() {
            Parcel c = new Parcel();
            c.writer = writer;
            c.number = number;
            c.from = from;
            c.to = to;
            c.promise = promise;
            c.expectedFrom = expectedFrom;
            c.expectedTo = expectedTo;
            c.pass = pass;
            c.state = state;
            c.left = left;
            c.posted = posted;
            c.arrived = arrived;
            return c;
        }
    }

    record Step(int from, int to, boolean took) {
    }

    static final class Side {
        int[][] board;
        List<Step> steps = new ArrayList<>();
        TreeMap<Integer, Parcel> stored = new TreeMap<>();
        TreeMap<Integer, Parcel> promises = new TreeMap<>();
        List<Integer> waits = new ArrayList<>();
        int kept;
        int ownDay = -1;
    }

    static final class Pass {
        int base;
        int[] snow = new int[12];
        int[] mules = new int[2];
        List<List<Integer>> queues = List.of(new ArrayList<>(), new ArrayList<>());
    }

    static final class World {
        int size;
        int limit;
        int day;
        int duplicates;
        Side[] sides = {new Side(), new Side()};
        List<Pass> passes = new ArrayList<>();
        List<Parcel> letters = new ArrayList<>();
        List<Integer> road = new ArrayList<>();

        World copy() {
            World w = new World();
            w.size = size;
            w.limit = limit;
            w.day = day;
            w.duplicates = duplicates;
            for (int p = 0; p < 2; p++) {
                Side s = sides[p];
                Side t = w.sides[p];
                t.board = new int[size][];
                for (int r = 0; r < size; r++) {
                    t.board[r] = s.board[r].clone();
                }
                t.steps.addAll(s.steps);
                t.stored.putAll(s.stored);
                t.promises.putAll(s.promises);
                t.waits.addAll(s.waits);
                t.kept = s.kept;
                t.ownDay = s.ownDay;
            }
            for (Pass s : passes) {
                Pass t = new Pass();
                t.base = s.base;
                t.snow = s.snow.clone();
                t.mules = s.mules.clone();
                t.queues.get(0).addAll(s.queues.get(0));
                t.queues.get(1).addAll(s.queues.get(1));
                w.passes.add(t);
            }
            for (Parcel l : letters) {
                w.letters.add(l.copy());
            }
            w.road.addAll(road);
            return w;
        }

        int month() {
            return day / 30 % 12;
        }

        boolean over(int p) {
            return count(p, 0) == 0 || count(p, 1) == 0 || sides[p].steps.size() == limit;
        }

        int count(int p, int owner) {
            int n = 0;
            for (int[] row : sides[p].board) {
                for (int one : row) {
                    n += one == owner ? 1 : 0;
                }
            }
            return n;
        }

        int next(int p) {
            return sides[p].steps.size() + 1;
        }

        boolean turn(int p) {
            return !over(p) && (next(p) % 2 == 1) == (p == 0);
        }

        static boolean can(int[][] b, int from, int to) {
            int n = b.length;
            int owner = b[from / n][from % n];
            if (owner == -1) {
                return false;
            }
            for (int dr = -1; dr <= 1; dr += 2) {
                for (int dc = -1; dc <= 1; dc += 2) {
                    int r = from / n + dr;
                    int c = from % n + dc;
                    while (r >= 0 && r < n && c >= 0 && c < n && b[r][c] != owner) {
                        if (r * n + c == to) {
                            return true;
                        }
                        if (b[r][c] != -1) {
                            break;
                        }
                        r += dr;
                        c += dc;
                    }
                }
            }
            return false;
        }

        void apply(int p, int from, int to) {
            Side s = sides[p];
            int mover = next(p) % 2 == 1 ? 0 : 1;
            boolean took = s.board[to / size][to % size] != -1;
            s.board[to / size][to % size] = s.board[from / size][from % size];
            s.board[from / size][from % size] = -1;
            s.steps.add(new Step(from, to, took));
            if (mover == p) {
                s.ownDay = day;
            } else if (s.ownDay >= 0) {
                s.waits.add(day - s.ownDay);
            }
        }

        void settle(int p) {
            Side s = sides[p];
            while (!over(p)) {
                int n = next(p);
                Parcel promise = s.promises.get(n);
                if (s.stored.containsKey(n)) {
                    Parcel l = s.stored.remove(n);
                    apply(p, l.from, l.to);
                } else if (promise != null && n > 1 && s.steps.get(n - 2).from() == promise.expectedFrom
                        && s.steps.get(n - 2).to() == promise.expectedTo) {
                    apply(p, promise.from, promise.to);
                    if (promise.writer == p) {
                        s.kept++;
                    }
                } else {
                    return;
                }
            }
        }

        int post(Parcel l, int pass) {
            l.pass = pass;
            l.posted = day;
            l.state = 0;
            letters.add(l);
            passes.get(pass).queues.get(l.writer).add(letters.size() - 1);
            return letters.size() - 1;
        }

        int passDay() {
            day++;
            int arrivals = 0;
            for (int id : new ArrayList<>(road)) {
                Parcel l = letters.get(id);
                if (passes.get(l.pass).snow[month()] == 9) {
                    continue;
                }
                l.left--;
                if (l.left == 0) {
                    arrivals++;
                    road.remove(Integer.valueOf(id));
                    l.state = 2;
                    l.arrived = day;
                    passes.get(l.pass).mules[1 - l.writer]++;
                    deliver(l);
                }
            }
            for (Pass pass : passes) {
                for (int s = 0; s < 2; s++) {
                    while (pass.snow[month()] != 9 && !pass.queues.get(s).isEmpty() && pass.mules[s] > 0) {
                        int id = pass.queues.get(s).remove(0);
                        pass.mules[s]--;
                        letters.get(id).state = 1;
                        letters.get(id).left = pass.base + pass.snow[month()];
                        road.add(id);
                    }
                }
            }
            return arrivals;
        }

        void deliver(Parcel l) {
            Side s = sides[1 - l.writer];
            if (l.number < 0) {
                return;
            }
            boolean duplicate;
            if (l.promise) {
                duplicate = s.promises.putIfAbsent(l.number, l) != null;
            } else {
                duplicate = l.number <= s.steps.size() || s.stored.putIfAbsent(l.number, l) != null;
            }
            duplicates += duplicate ? 1 : 0;
            settle(1 - l.writer);
        }

        boolean equalBoards() {
            return sides[0].steps.size() == sides[1].steps.size()
                    && Arrays.deepEquals(sides[0].board, sides[1].board);
        }
    }

    private World world = new World();
    private final List<World> undos = new ArrayList<>();
    private final World[] slots = new World[2];
    private final StringBuilder text = new StringBuilder();
    private String output = "";
    private int error = 0;
    private int errorAt = -1;
    private boolean inScript;

    public Reference() {
        text.append("game 6 40; bishop 0 0 1; bishop 0 0 4; bishop 0 1 0; bishop 1 5 1; bishop 1 5 4; bishop 1 4 5; "
                + "pass 3 1 1; pass 5 2 0; snow 0 0 4; snow 0 1 9; snow 1 1 2;");
        load();
    }

    World world() {
        return world;
    }

    // ---- texts

    public int append(int a, int b, int c, int d, int e) {
        StringBuilder more = new StringBuilder();
        for (int x : new int[] {a, b, c, d, e}) {
            for (byte one : java.nio.ByteBuffer.allocate(4).putInt(x).array()) {
                if (one != 0) {
                    more.append((char) (one & 255));
                }
            }
        }
        if (text.length() + more.length() > 800) {
            throw new IllegalStateException();
        }
        text.append(more);
        return text.length();
    }

    public int truncate(int length) {
        if (length < 0 || length > text.length()) {
            throw new IllegalArgumentException();
        }
        int removed = text.length() - length;
        text.setLength(length);
        return removed;
    }

    public int errorCode() {
        return error;
    }

    public int errorPosition() {
        return errorAt;
    }

    static final class Wrong extends Exception {
        private static final long serialVersionUID = 1;
        final int code;
        final int position;

        Wrong(int code, int position) {
            this.code = code;
            this.position = position;
        }
    }

    record Token(String text, int position) {
    }

    private static List<Token> tokens(String source) {
        List<Token> list = new ArrayList<>();
        java.util.regex.Matcher m = java.util.regex.Pattern.compile("[a-z]+|[0-9]+|[^ \n]").matcher(source);
        while (m.find()) {
            list.add(new Token(m.group(), m.start()));
        }
        return list;
    }

    static final class Parser {
        final List<Token> tokens;
        final int end;
        int next;
        int commands;

        Parser(String source) {
            tokens = tokens(source);
            end = source.length();
        }

        String peek() {
            return next < tokens.size() ? tokens.get(next).text() : "";
        }

        int position() {
            return next < tokens.size() ? tokens.get(next).position() : end;
        }

        void expect(String word) throws Wrong {
            if (!peek().equals(word)) {
                throw new Wrong(1, position());
            }
            next++;
        }

        int number(int low, int high) throws Wrong {
            if (!peek().matches("[0-9]+")) {
                throw new Wrong(1, position());
            }
            java.math.BigInteger value = new java.math.BigInteger(peek());
            if (value.compareTo(java.math.BigInteger.valueOf(low)) < 0
                    || value.compareTo(java.math.BigInteger.valueOf(high)) > 0) {
                throw new Wrong(2, position());
            }
            next++;
            return value.intValue();
        }

        World setup() throws Wrong {
            World w = new World();
            expect("game");
            w.size = number(4, 8);
            w.limit = number(1, 60);
            expect(";");
            for (Side s : w.sides) {
                s.board = new int[w.size][w.size];
                for (int[] row : s.board) {
                    Arrays.fill(row, -1);
                }
            }
            while (peek().equals("bishop")) {
                next++;
                int at = position();
                int player = number(0, 1);
                if (w.count(0, player) == 8) {
                    throw new Wrong(4, at);
                }
                int row = number(0, w.size - 1);
                at = position();
                int column = number(0, w.size - 1);
                if (w.sides[0].board[row][column] != -1) {
                    throw new Wrong(3, at);
                }
                expect(";");
                w.sides[0].board[row][column] = player;
                w.sides[1].board[row][column] = player;
            }
            do {
                if (w.passes.size() == 4) {
                    throw new Wrong(4, position());
                }
                expect("pass");
                Pass pass = new Pass();
                pass.base = number(1, 9);
                pass.mules[0] = number(0, 9);
                pass.mules[1] = number(0, 9);
                expect(";");
                w.passes.add(pass);
            } while (peek().equals("pass"));
            while (peek().equals("snow")) {
                next++;
                int pass = number(0, w.passes.size() - 1);
                int month = number(0, 11);
                int depth = number(0, 9);
                expect(";");
                w.passes.get(pass).snow[month] = depth;
            }
            if (next < tokens.size()) {
                throw new Wrong(1, position());
            }
            return w;
        }

        List<Object[]> script(int depth) throws Wrong {
            List<Object[]> list = new ArrayList<>();
            while (next < tokens.size() && !(depth > 0 && peek().equals(")"))) {
                list.add(command(depth));
                expect(";");
            }
            return list;
        }

        Object[] command(int depth) throws Wrong {
            String word = peek();
            if (!List.of("move", "promise", "resend", "days", "mule", "snow", "repeat").contains(word)) {
                throw new Wrong(1, position());
            }
            if (commands == 30) {
                throw new Wrong(4, position());
            }
            commands++;
            next++;
            switch (word) {
                case "move":
                    return new Object[] {word, number(0, 1), number(0, 63), number(0, 63), number(0, 3)};
                case "promise":
                    return new Object[] {word, number(0, 1), number(0, 3), number(0, 63), number(0, 63),
                        number(0, 63), number(0, 63)};
                case "resend":
                    return new Object[] {word, number(0, 79), number(0, 3)};
                case "days":
                    return new Object[] {word, number(1, 60)};
                case "mule":
                    return new Object[] {word, number(0, 3), number(0, 1)};
                case "snow":
                    return new Object[] {word, number(0, 3), number(0, 11), number(0, 9)};
                default:
                    int times = number(0, 20);
                    if (depth == 2 && peek().equals("(")) {
                        throw new Wrong(4, position());
                    }
                    expect("(");
                    List<Object[]> body = script(depth + 1);
                    expect(")");
                    return new Object[] {word, times, body};
            }
        }
    }

    public int load() {
        String source = text.toString();
        text.setLength(0);
        try {
            world = new Parser(source).setup();
            undos.clear();
            Arrays.fill(slots, null);
            error = 0;
            errorAt = -1;
        } catch (Wrong w) {
            error = w.code;
            errorAt = w.position;
        }
        return error;
    }

    private int executed;

    public int runScript() {
        String source = text.toString();
        text.setLength(0);
        List<Object[]> commands;
        try {
            commands = new Parser(source).script(0);
            error = 0;
            errorAt = -1;
        } catch (Wrong w) {
            error = w.code;
            errorAt = w.position;
            return -1;
        }
        remember();
        executed = 0;
        inScript = true;
        try {
            execute(commands);
        } catch (RuntimeException stop) {
            if (stop.getClass() == NullPointerException.class) {
                throw stop;
            }
        }
        inScript = false;
        return executed;
    }

    @SuppressWarnings("unchecked")
    private void execute(List<Object[]> commands) {
        for (Object[] c : commands) {
            if (executed == 40) {
                return;
            }
            if (c[0].equals("repeat")) {
                for (int i = 0; i < (Integer) c[1]; i++) {
                    execute((List<Object[]>) c[2]);
                }
                continue;
            }
            int[] n = new int[c.length];
            for (int i = 1; i < c.length; i++) {
                n[i] = (Integer) c[i];
            }
            switch ((String) c[0]) {
                case "move" -> move(n[1], n[2], n[3], n[4]);
                case "promise" -> promise(n[1], n[2], n[3], n[4], n[5], n[6]);
                case "resend" -> resend(n[1], n[2]);
                case "days" -> advance(n[1]);
                case "mule" -> addMule(n[1], n[2]);
                default -> setSnow(n[1], n[2], n[3]);
            }
            executed++;
        }
    }

    private void remember() {
        if (inScript) {
            return;
        }
        undos.add(world.copy());
        if (undos.size() > 8) {
            undos.remove(0);
        }
    }

    // ---- the game

    private static void need(boolean exists) {
        if (!exists) {
            throw new IndexOutOfBoundsException();
        }
    }

    private static void player(int p) {
        need(p == 0 || p == 1);
    }

    private void square(int s) {
        need(s >= 0 && s < world.size * world.size);
    }

    private void pass(int p) {
        need(p >= 0 && p < world.passes.size());
    }

    private void letter(int l) {
        need(l >= 0 && l < world.letters.size());
    }

    public int boardSize() {
        return world.size;
    }

    public int moveLimit() {
        return world.limit;
    }

    public int day() {
        return world.day;
    }

    public int month() {
        return world.month();
    }

    public int bishopOwner(int player, int square) {
        player(player);
        square(square);
        return world.sides[player].board[square / world.size][square % world.size];
    }

    public int bishopCount(int player, int owner) {
        player(player);
        player(owner);
        return world.count(player, owner);
    }

    public int moveCount(int player) {
        player(player);
        return world.sides[player].steps.size();
    }

    public boolean isTurn(int player) {
        player(player);
        return world.turn(player);
    }

    public boolean isOver(int player) {
        player(player);
        return world.over(player);
    }

    public int winner(int player) {
        player(player);
        if (!world.over(player) || world.count(player, 0) == world.count(player, 1)) {
            return -1;
        }
        return world.count(player, 0) > world.count(player, 1) ? 0 : 1;
    }

    public boolean canMove(int player, int from, int to) {
        player(player);
        square(from);
        square(to);
        return World.can(world.sides[player].board, from, to);
    }

    public int mobility(int player, int owner) {
        player(player);
        player(owner);
        return waysOf(world.sides[player].board, owner).size();
    }

    static List<int[]> waysOf(int[][] board, int owner) {
        List<int[]> ways = new ArrayList<>();
        int n = board.length;
        for (int from = 0; from < n * n; from++) {
            for (int to = 0; to < n * n; to++) {
                if (board[from / n][from % n] == owner && World.can(board, from, to)) {
                    ways.add(new int[] {from, to});
                }
            }
        }
        return ways;
    }

    private Step step(int player, int number) {
        player(player);
        if (number < 1 || number > world.sides[player].steps.size()) {
            throw new NoSuchElementException();
        }
        return world.sides[player].steps.get(number - 1);
    }

    public int movedFrom(int player, int number) {
        return step(player, number).from();
    }

    public int movedTo(int player, int number) {
        return step(player, number).to();
    }

    public int storedMoves(int player) {
        player(player);
        return world.sides[player].stored.size();
    }

    public boolean areBoardsEqual() {
        return world.equalBoards();
    }

    // ---- the post

    public int passCount() {
        return world.passes.size();
    }

    public int snowDepth(int pass, int month) {
        pass(pass);
        need(month >= 0 && month < 12);
        return world.passes.get(pass).snow[month];
    }

    public int travelDays(int pass) {
        pass(pass);
        int snow = world.passes.get(pass).snow[world.month()];
        return snow == 9 ? -1 : world.passes.get(pass).base + snow;
    }

    public int mules(int pass, int side) {
        pass(pass);
        player(side);
        return world.passes.get(pass).mules[side];
    }

    public int queueLength(int pass, int side) {
        pass(pass);
        player(side);
        return world.passes.get(pass).queues.get(side).size();
    }

    public int letterCount() {
        return world.letters.size();
    }

    public int writer(int letter) {
        letter(letter);
        return world.letters.get(letter).writer;
    }

    public int letterNumber(int letter) {
        letter(letter);
        return world.letters.get(letter).number;
    }

    public boolean isPromise(int letter) {
        letter(letter);
        return world.letters.get(letter).promise;
    }

    public int letterState(int letter) {
        letter(letter);
        return world.letters.get(letter).state;
    }

    public int awaitedLetter(int player) {
        player(player);
        for (int i = 0; i < world.letters.size(); i++) {
            Parcel l = world.letters.get(i);
            if (l.writer == 1 - player && l.state != 2 && l.number == world.next(player)) {
                return i;
            }
        }
        return -1;
    }

    public int reasonToWait(int player) {
        player(player);
        if (world.turn(player)) {
            return 0;
        }
        if (world.over(player)) {
            return 1;
        }
        int letter = awaitedLetter(player);
        return letter == -1 ? 2 : 3 + world.letters.get(letter).state;
    }

    // ---- statistics

    public int duplicateCount() {
        return world.duplicates;
    }

    public int keptPromises(int player) {
        player(player);
        return world.sides[player].kept;
    }

    public int longestWait(int player) {
        player(player);
        List<Integer> waits = world.sides[player].waits;
        return waits.isEmpty() ? 0 : Collections.max(waits);
    }

    public double meanWait(int player) {
        player(player);
        List<Integer> waits = world.sides[player].waits;
        int sum = 0;
        for (int wait : waits) {
            sum += wait;
        }
        return waits.isEmpty() ? 0.0 : (double) sum / (double) waits.size();
    }

    public float meanTravel() {
        int sum = 0;
        int count = 0;
        for (Parcel l : world.letters) {
            if (l.state == 2) {
                sum += l.arrived - l.posted;
                count++;
            }
        }
        return count == 0 ? 0.0f : (float) sum / (float) count;
    }

    public int contradictions() {
        return 0;
    }

    // ---- forecasts

    public int arrivalDay(int letter) {
        letter(letter);
        World w = world.copy();
        for (int i = 0; i <= 400; i++) {
            if (w.letters.get(letter).state == 2) {
                return w.letters.get(letter).arrived;
            }
            w.passDay();
        }
        return -1;
    }

    public int daysUntilTurn(int player) {
        player(player);
        World w = world.copy();
        for (int i = 0; i <= 400; i++) {
            if (w.turn(player)) {
                return i;
            }
            w.passDay();
        }
        return -1;
    }

    public int daysUntilEqual() {
        World w = world.copy();
        for (int i = 0; i <= 400; i++) {
            if (w.equalBoards()) {
                return i;
            }
            w.passDay();
        }
        return -1;
    }

    public int fastestPass(int player) {
        player(player);
        int best = -1;
        int bestDay = Integer.MAX_VALUE;
        for (int pass = 0; pass < world.passes.size(); pass++) {
            World w = world.copy();
            Parcel l = new Parcel();
            l.writer = player;
            l.number = -1;
            int id = w.post(l, pass);
            for (int i = 1; i <= 400 && w.letters.get(id).state != 2; i++) {
                w.passDay();
            }
            if (w.letters.get(id).state == 2 && w.letters.get(id).arrived < bestDay) {
                best = pass;
                bestDay = w.letters.get(id).arrived;
            }
        }
        return best;
    }

    // ---- changes

    public int move(int player, int from, int to, int pass) {
        player(player);
        square(from);
        square(to);
        pass(pass);
        if (!world.turn(player) || world.letters.size() >= 80) {
            throw new IllegalStateException();
        }
        if (bishopOwner(player, from) != player || !canMove(player, from, to)) {
            throw new IllegalArgumentException();
        }
        remember();
        Parcel l = new Parcel();
        l.writer = player;
        l.number = world.next(player);
        l.from = from;
        l.to = to;
        world.apply(player, from, to);
        world.post(l, pass);
        world.settle(player);
        return l.number;
    }

    public int promise(int player, int pass, int expectedFrom, int expectedTo, int replyFrom, int replyTo) {
        player(player);
        pass(pass);
        square(expectedFrom);
        square(expectedTo);
        square(replyFrom);
        square(replyTo);
        int number = world.next(player) + 1;
        Parcel known = world.sides[player].promises.get(number);
        if (world.over(player) || world.turn(player) || known != null && known.writer == player
                || world.letters.size() >= 80) {
            throw new IllegalStateException();
        }
        if (bishopOwner(player, expectedFrom) != 1 - player || !canMove(player, expectedFrom, expectedTo)) {
            throw new IllegalArgumentException();
        }
        World after = world.copy();
        after.apply(player, expectedFrom, expectedTo);
        int[][] board = after.sides[player].board;
        if (after.over(player) || board[replyFrom / world.size][replyFrom % world.size] != player
                || !World.can(board, replyFrom, replyTo)) {
            throw new IllegalArgumentException();
        }
        remember();
        Parcel l = new Parcel();
        l.writer = player;
        l.number = number;
        l.promise = true;
        l.expectedFrom = expectedFrom;
        l.expectedTo = expectedTo;
        l.from = replyFrom;
        l.to = replyTo;
        world.sides[player].promises.put(number, l);
        world.post(l, pass);
        return number;
    }

    public int resend(int letter, int pass) {
        letter(letter);
        pass(pass);
        if (world.letters.size() >= 80) {
            throw new IllegalStateException();
        }
        remember();
        return world.post(world.letters.get(letter).copy(), pass);
    }

    public int advance(int days) {
        if (days < 1 || days > 60) {
            throw new IllegalArgumentException();
        }
        if (world.day + days > 9999) {
            throw new IllegalStateException();
        }
        remember();
        int arrivals = 0;
        for (int i = 0; i < days; i++) {
            arrivals += world.passDay();
        }
        return arrivals;
    }

    public int addMule(int pass, int side) {
        pass(pass);
        player(side);
        if (world.passes.get(pass).mules[side] >= 9) {
            throw new IllegalStateException();
        }
        remember();
        return ++world.passes.get(pass).mules[side];
    }

    public int setSnow(int pass, int month, int depth) {
        pass(pass);
        need(month >= 0 && month < 12);
        if (depth < 0 || depth > 9) {
            throw new IllegalArgumentException();
        }
        remember();
        int previous = world.passes.get(pass).snow[month];
        world.passes.get(pass).snow[month] = depth;
        return previous;
    }

    // ---- output, undo and slots

    public int writeBoard(int player) {
        player(player);
        List<String> rows = new ArrayList<>();
        for (int[] row : world.sides[player].board) {
            StringBuilder line = new StringBuilder();
            for (int one : row) {
                line.append(".wb".charAt(one + 1));
            }
            rows.add(line.toString());
        }
        Collections.reverse(rows);
        output = String.join("/", rows);
        return output.length();
    }

    public int writeMoves(int player) {
        player(player);
        List<String> list = new ArrayList<>();
        for (Step s : world.sides[player].steps) {
            list.add(s.from() + (s.took() ? "x" : "-") + s.to());
        }
        output = String.join(" ", list);
        return output.length();
    }

    public int outputByte(int index) {
        return index >= 0 && index < output.length() ? output.charAt(index) : -1;
    }

    public int undoCount() {
        return undos.size();
    }

    public int undo() {
        if (undos.isEmpty()) {
            throw new IllegalStateException();
        }
        world = undos.remove(undos.size() - 1);
        return undos.size();
    }

    public int save(int slot) {
        player(slot);
        slots[slot] = world.copy();
        return world.day;
    }

    public int restore(int slot) {
        player(slot);
        if (slots[slot] == null) {
            throw new NoSuchElementException();
        }
        world = slots[slot].copy();
        undos.clear();
        return world.day;
    }
}
