import java.io.IOException;
import java.io.UncheckedIOException;
import java.nio.file.Files;
import java.nio.file.Path;
import java.util.concurrent.Callable;

/** Counts wrong answers; used by every test of the project. */
final class Check {
    private static int wrong = 0;
    private static int checks = 0;
    private static String document = "";
    private static String sentence = "";

    private Check() {
    }

    /** Names the sentences of the document that the next checks are about; they must stand there word by word. */
    static void about(String... sentences) {
        if (document.isEmpty()) {
            try {
                document = Files.readString(Path.of("../shared/DOC.md")).replaceAll("\\s+", " ");
            } catch (IOException e) {
                throw new UncheckedIOException(e);
            }
        }
        sentence = "";
        for (String words : sentences) {
            same("the document, asked for \"" + words + "\",", true, document.contains(words));
        }
        sentence = String.join(" / ", sentences);
    }

    static void same(String call, Object want, Object got) {
        checks++;
        if (!want.equals(got)) {
            complain(call, want, got);
        }
    }

    private static void complain(String call, Object want, Object got) {
        wrong++;
        System.out.println(call + " answered " + got + ", due is " + want
                + (sentence.isEmpty() ? "" : "  [" + sentence + "]"));
    }

    /** The exception must be of the very class that the document names: one of the machine's is a class below it. */
    static void fails(String call, Class<? extends RuntimeException> want, Callable<?> action) {
        checks++;
        Object got;
        try {
            got = action.call();
        } catch (Exception e) {
            got = e.getClass();
        }
        if (got != want) {
            complain(call, want, got);
        }
    }

    static void noSuchThing(String call, Callable<?> action) {
        fails(call, IndexOutOfBoundsException.class, action);
    }

    static void wrongState(String call, Callable<?> action) {
        fails(call, IllegalStateException.class, action);
    }

    static void wrongArgument(String call, Callable<?> action) {
        fails(call, IllegalArgumentException.class, action);
    }

    /** Appends a text to the buffer, twenty bytes a call. */
    static void type(MulePostBishops game, String text) {
        for (int i = 0; i < text.length(); i += 20) {
            int[] five = new int[5];
            for (int j = 0; j < 20 && i + j < text.length(); j++) {
                five[j / 4] |= text.charAt(i + j) << 24 - j % 4 * 8;
            }
            game.append(five[0], five[1], five[2], five[3], five[4]);
        }
    }

    static int load(MulePostBishops game, String text) {
        type(game, text);
        return game.load();
    }

    static int run(MulePostBishops game, String text) {
        type(game, text);
        return game.runScript();
    }

    /** A new game of a setup that has no error. */
    static MulePostBishops start(String setup) {
        MulePostBishops game = new MulePostBishops();
        same("load() of " + setup, 0, load(game, setup));
        return game;
    }

    static String board(MulePostBishops game, int player) {
        return output(game, game.writeBoard(player));
    }

    static String moves(MulePostBishops game, int player) {
        return output(game, game.writeMoves(player));
    }

    static String output(MulePostBishops game, int length) {
        StringBuilder text = new StringBuilder();
        for (int i = 0; i < length; i++) {
            text.append((char) game.outputByte(i));
        }
        same("outputByte(" + length + ")", MulePostBishops.NONE, game.outputByte(length));
        return text.toString();
    }

    /** Ends the test: exit code 1 if an answer was wrong. */
    static void end() {
        System.out.println(checks + " checks, " + wrong + " wrong");
        if (wrong != 0 || checks == 0) {
            System.exit(1);
        }
    }
}
