import java.lang.reflect.InvocationTargetException;
import java.lang.reflect.Method;
import java.util.ArrayList;
import java.util.HashMap;
import java.util.List;
import java.util.Map;
import java.util.Random;

/**
 * Makes the same calls of the class and of the reference and compares every answer; the seeds are fixed. An object is used for
 * at most 512 calls: everything is asked of further objects, on which the same calls were made before.
 */
public final class FuzzTest {
    private static final int LIFE = 512;
    // leaves room for one more text, and for questions
    private static final int LONGEST_LOG = 400;
    private static final int[] WILD = {-1, 0, 1, 2, 3, 4, 12, 35, 36, 63, 64, 79, 80, 400, 800, -64, Integer.MIN_VALUE,
        Integer.MAX_VALUE, 1 << 26, -(1 << 26), 1 << 30};
    private static final Map<String, Method> OURS = new HashMap<>();
    private static final Map<String, Method> THEIRS = new HashMap<>();
    private static final List<String> NAMES = new ArrayList<>();
    private static final Map<String, Integer> DONE = new HashMap<>();
    private static final Map<String, Integer> MOST = new HashMap<>();

    private final Random random;
    private final MulePostBishops game = new MulePostBishops();
    private final Reference reference = new Reference();
    private final List<Query> log = new ArrayList<>();

    private record Query(String name, int[] numbers) {
        Object[] arguments() {
            Object[] all = new Object[numbers.length];
            for (int i = 0; i < numbers.length; i++) {
                all[i] = numbers[i];
            }
            return all;
        }

        String text() {
            return name + java.util.Arrays.toString(numbers);
        }
    }

    private FuzzTest(long seed) {
        random = new Random(seed);
    }

    public static void main(String[] args) throws Exception {
        for (Method m : MulePostBishops.class.getMethods()) {
            if (m.getDeclaringClass() == MulePostBishops.class) {
                OURS.put(m.getName(), m);
                NAMES.add(m.getName());
                THEIRS.put(m.getName(), Reference.class.getMethod(m.getName(), m.getParameterTypes()));
            }
        }
        NAMES.sort(null);
        int runs = args.length > 0 ? Integer.parseInt(args[0]) : 60;
        long first = args.length > 1 ? Long.parseLong(args[1]) : 0;
        for (long seed = first; seed < first + runs; seed++) {
            if (!new FuzzTest(seed).run()) {
                System.out.println("seed " + seed);
                System.exit(1);
            }
        }
        Check.same("the number of methods", 55 + 2, NAMES.size());
        for (String name : NAMES) {
            Check.same("a successful call of " + name, true, DONE.containsKey(name));
        }
        for (String name : List.of("keptPromises", "storedMoves", "duplicateCount", "longestWait", "fastestPass",
                "daysUntilEqual", "daysUntilTurn", "arrivalDay", "moveCount", "runScript", "undoCount", "winner")) {
            Check.same("an answer of " + name + " above 0", true, MOST.getOrDefault(name, 0) > 0);
        }
        if (args.length > 0) {
            System.out.println(DONE);
            System.out.println(MOST);
        }
        Check.end();
    }

    private boolean run() throws Exception {
        if (random.nextInt(4) > 0) {
            type(setup());
            if (!call("load")) {
                return false;
            }
        }
        int steps = 20 + random.nextInt(200);
        for (int i = 0; i < steps && log.size() < LONGEST_LOG; i++) {
            if (!step() || !askAll(questions(i % 8 == 0))) {
                for (Query query : log) {
                    System.out.println(query.text());
                }
                return false;
            }
        }
        return true;
    }

    private int wild(int below) {
        return random.nextInt(25) == 0 ? WILD[random.nextInt(WILD.length)] : random.nextInt(Math.max(1, below));
    }

    private boolean step() throws Exception {
        Reference.World world = reference.world();
        int passes = world.passes.size();
        switch (random.nextInt(23)) {
            case 0, 1, 2, 3, 4, 5: {
                int player = world.turn(0) && (random.nextBoolean() || !world.turn(1)) ? 0 : 1;
                List<int[]> ways = Reference.waysOf(world.sides[player].board, player);
                if (ways.isEmpty() || random.nextInt(15) == 0) {
                    int squares = world.size * world.size;
                    return call("move", wild(2), wild(squares), wild(squares), wild(passes));
                }
                int[] way = ways.get(random.nextInt(ways.size()));
                return call("move", player, way[0], way[1], wild(passes));
            }
            case 6, 7, 8, 9:
                return makePromise(world, passes);
            case 10, 11:
                return call("resend", wild(world.letters.size()), wild(passes));
            case 12, 13, 14, 15:
                return call("advance", random.nextInt(10) == 0 ? wild(62) : 1 + random.nextInt(12));
            case 16:
                return call("addMule", wild(passes), wild(2));
            case 17:
                return call("setSnow", wild(passes), random.nextBoolean() ? world.month() : wild(12), wild(10));
            case 18:
                return script();
            case 19:
                return random.nextInt(3) == 0 ? setupAgain() : call("undo");
            case 20:
                return random.nextInt(3) > 0 ? call("save", wild(2)) : call("restore", wild(2));
            case 21:
                return call(random.nextBoolean() ? "writeBoard" : "writeMoves", wild(2));
            default:
                return oddText();
        }
    }

    private boolean makePromise(Reference.World world, int passes) throws Exception {
        int squares = world.size * world.size;
        int player = random.nextInt(2);
        List<int[]> expected = Reference.waysOf(world.sides[player].board, 1 - player);
        if (expected.isEmpty() || random.nextInt(12) == 0) {
            return call("promise", wild(2), wild(passes), wild(squares), wild(squares), wild(squares), wild(squares));
        }
        int[] first = expected.get(random.nextInt(expected.size()));
        if (random.nextInt(3) > 0 && world.sides[1 - player].steps.size() > world.sides[player].steps.size()) {
            // the move that was really played, so that promises take effect
            Reference.Step played = world.sides[1 - player].steps.get(world.sides[player].steps.size());
            first = new int[] {played.from(), played.to()};
        }
        Reference.World after = world.copy();
        after.apply(player, first[0], first[1]);
        List<int[]> replies = Reference.waysOf(after.sides[player].board, player);
        int[] second = replies.isEmpty() ? first : replies.get(random.nextInt(replies.size()));
        return call("promise", player, wild(passes), first[0], first[1], second[0], second[1]);
    }

    private boolean setupAgain() throws Exception {
        return type(setup()) && call("load");
    }

    private boolean script() throws Exception {
        String text = commands(0, 1 + random.nextInt(4));
        if (random.nextInt(4) == 0) {
            text = spoil(text);
        }
        return type(text) && call("runScript");
    }

    private boolean oddText() throws Exception {
        switch (random.nextInt(4)) {
            case 0:
                return call("append", random.nextInt(), random.nextInt() & 0xff00ff, WILD[random.nextInt(WILD.length)],
                        0, random.nextInt(256));
            case 1:
                return call("truncate", wild(20));
            case 2:
                return call("load");
            default:
                return type(spoil(commands(0, 30 + random.nextInt(6)))) && call("runScript");
        }
    }

    private String commands(int depth, int count) {
        StringBuilder text = new StringBuilder();
        Reference.World world = reference.world();
        int passes = world.passes.size();
        for (int i = 0; i < count; i++) {
            switch (random.nextInt(depth > 2 ? 6 : 8)) {
                case 0: {
                    int player = random.nextInt(2);
                    List<int[]> ways = Reference.waysOf(world.sides[player].board, player);
                    int[] way = ways.isEmpty() ? new int[] {0, 0} : ways.get(random.nextInt(ways.size()));
                    words(text, "move", player, way[0], way[1], small(passes));
                    break;
                }
                case 1: {
                    int player = random.nextInt(2);
                    List<int[]> ways = Reference.waysOf(world.sides[player].board, 1 - player);
                    List<int[]> replies = Reference.waysOf(world.sides[player].board, player);
                    if (ways.isEmpty() || replies.isEmpty()) {
                        words(text, "promise", 0, 0, 1, 2, 3, small(64));
                    } else {
                        int[] way = ways.get(random.nextInt(ways.size()));
                        int[] reply = replies.get(random.nextInt(replies.size()));
                        words(text, "promise", player, small(passes), way[0], way[1], reply[0], reply[1]);
                    }
                    break;
                }
                case 2:
                    words(text, "resend", small(Math.max(1, world.letters.size())), small(passes));
                    break;
                case 3:
                    words(text, "mule", small(passes), small(2));
                    break;
                case 4:
                    words(text, "snow", small(passes), small(12), small(10));
                    break;
                case 5:
                    words(text, "days", 1 + random.nextInt(random.nextInt(5) == 0 ? 60 : 5));
                    break;
                default:
                    words(text, "repeat", random.nextInt(6) == 0 ? small(21) : random.nextInt(4));
                    text.append(random.nextBoolean() ? "(" : " ( ");
                    text.append(commands(depth + 1, random.nextInt(4)));
                    text.append(")");
            }
            text.append(random.nextBoolean() ? ";" : " ; ");
        }
        return text.toString();
    }

    private int small(int below) {
        return random.nextInt(60) == 0 ? below : random.nextInt(below);
    }

    private void words(StringBuilder text, String word, int... numbers) {
        text.append(word);
        for (int number : numbers) {
            text.append(random.nextInt(10) == 0 ? "\n" : " ").append(random.nextInt(20) == 0 ? "00" : "").append(number);
        }
    }

    private String setup() {
        StringBuilder text = new StringBuilder();
        int size = 4 + random.nextInt(5);
        words(text, "game", size, random.nextInt(3) == 0 ? 1 + random.nextInt(8) : 1 + random.nextInt(60));
        text.append(";");
        List<Integer> squares = new ArrayList<>();
        for (int i = 0; i < size * size; i++) {
            squares.add(i);
        }
        java.util.Collections.shuffle(squares, random);
        int bishops = random.nextInt(30) == 0 ? random.nextInt(19) : 2 + random.nextInt(size == 4 ? 6 : 14);
        for (int i = 0; i < bishops && i < squares.size(); i++) {
            int square = squares.get(random.nextInt(60) == 0 ? 0 : i);
            words(text, "bishop", i % 2, square / size, square % size);
            text.append(";\n");
        }
        int passes = 1 + random.nextInt(random.nextInt(12) == 0 ? 5 : 4);
        for (int i = 0; i < passes; i++) {
            words(text, "pass", 1 + random.nextInt(9), random.nextInt(10), random.nextInt(10));
            text.append(";");
        }
        for (int i = random.nextInt(10); i > 0; i--) {
            words(text, "snow", small(passes), small(12), small(10));
            text.append(";");
        }
        return random.nextInt(5) == 0 ? spoil(text.toString()) : text.toString();
    }

    private String spoil(String text) {
        String signs = ";() \n0123456789abgmpdxyz~A\u00e9\u0001";
        StringBuilder spoiled = new StringBuilder(text);
        for (int i = random.nextInt(3); i >= 0 && spoiled.length() > 0; i--) {
            int at = random.nextInt(spoiled.length());
            char sign = signs.charAt(random.nextInt(signs.length()));
            switch (random.nextInt(5)) {
                case 0 -> spoiled.setCharAt(at, sign);
                case 1 -> spoiled.deleteCharAt(at);
                case 2 -> spoiled.insert(at, sign);
                case 3 -> spoiled.insert(at, "99999999999999999999");
                default -> spoiled.setLength(random.nextInt(4) == 0 ? at : spoiled.length());
            }
        }
        return spoiled.toString();
    }

    private boolean type(String text) throws Exception {
        for (int i = 0; i < text.length(); i += 20) {
            int[] five = new int[5];
            for (int j = 0; j < 20; j++) {
                int one = i + j < text.length() ? text.charAt(i + j) : 0;
                five[j / 4] |= one << 24 - j % 4 * 8;
            }
            if (!call("append", five[0], five[1], five[2], five[3], five[4])) {
                return false;
            }
        }
        return true;
    }

    /** Questions about everything that an object tells; none of them changes anything. */
    private List<Query> questions(boolean withForecasts) {
        Reference.World world = reference.world();
        int passes = world.passes.size();
        int squares = world.size * world.size;
        int letters = world.letters.size();
        List<Query> all = new ArrayList<>();
        for (String name : NAMES) {
            switch (name) {
                case "append", "truncate", "load", "runScript", "move", "promise", "resend", "advance", "addMule", "setSnow", "undo",
                        "save", "restore", "writeBoard", "writeMoves" -> { }
                case "bishopOwner" -> forBoth(all, name, -1, squares);
                case "movedFrom", "movedTo" -> forBoth(all, name, -1, 63);
                case "canMove" -> {
                    for (int i = 0; i < 20; i++) {
                        ask(all, name, random.nextInt(2), wild(squares), wild(squares));
                    }
                }
                case "snowDepth" -> {
                    for (int i = -1; i < 13; i++) {
                        ask(all, name, wild(passes), i);
                    }
                }
                case "bishopCount", "mobility" -> {
                    forBoth(all, name, 0, 1);
                    ask(all, name, wild(2), wild(2));
                }
                case "mules", "queueLength" -> {
                    for (int i = -1; i <= passes; i++) {
                        ask(all, name, i, 0);
                        ask(all, name, i, 1);
                        ask(all, name, i, wild(2));
                    }
                }
                case "writer", "letterNumber", "isPromise", "letterState" -> forEach(all, name, -1, letters);
                case "arrivalDay", "daysUntilTurn", "fastestPass", "daysUntilEqual" -> {
                    if (withForecasts) {
                        forecast(all, name, letters);
                    }
                }
                case "outputByte" -> {
                    ask(all, name, wild(400));
                    if (withForecasts) {
                        forEach(all, name, -1, 400);
                    }
                }
                default -> {
                    if (OURS.get(name).getParameterCount() == 0) {
                        ask(all, name);
                    } else {
                        forEach(all, name, 0, 1);
                        ask(all, name, WILD[random.nextInt(WILD.length)]);
                    }
                }
            }
        }
        return all;
    }

    private static void ask(List<Query> all, String name, int... numbers) {
        all.add(new Query(name, numbers));
    }

    private static void forEach(List<Query> all, String name, int first, int last) {
        for (int i = first; i <= last; i++) {
            ask(all, name, i);
        }
    }

    private static void forBoth(List<Query> all, String name, int first, int last) {
        for (int i = first; i <= last; i++) {
            ask(all, name, 0, i);
            ask(all, name, 1, i);
        }
    }

    private void forecast(List<Query> all, String name, int letters) {
        if (name.equals("daysUntilEqual")) {
            ask(all, name);
        } else if (name.equals("arrivalDay")) {
            ask(all, name, wild(letters));
            ask(all, name, letters - 1);
        } else {
            forEach(all, name, 0, 1);
            ask(all, name, wild(2));
        }
    }

    private boolean askAll(List<Query> queries) throws Exception {
        MulePostBishops other = null;
        int used = LIFE;
        for (Query query : queries) {
            if (used == LIFE) {
                other = new MulePostBishops();
                used = log.size();
                for (Query past : log) {
                    answer(OURS.get(past.name), other, past.arguments());
                }
            }
            used++;
            if (!agree(query, other)) {
                return false;
            }
        }
        return true;
    }

    private boolean call(String name, int... numbers) throws Exception {
        Query query = new Query(name, numbers);
        log.add(query);
        return agree(query, game);
    }

    private boolean agree(Query query, MulePostBishops object) throws Exception {
        String name = query.name;
        Object want = answer(THEIRS.get(name), reference, query.arguments());
        Object got = answer(OURS.get(name), object, query.arguments());
        if (want.equals(got)) {
            if (!(got instanceof Class)) {
                DONE.merge(name, 1, Integer::sum);
                if (got instanceof Integer) {
                    MOST.merge(name, (Integer) got, Math::max);
                }
            }
            return true;
        }
        System.out.println(query.text() + " answered " + got + ", due is " + want);
        return false;
    }

    private static Object answer(Method method, Object target, Object[] args) throws Exception {
        try {
            return method.invoke(target, args);
        } catch (InvocationTargetException e) {
            return e.getCause().getClass();
        }
    }
}
