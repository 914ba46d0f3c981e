/** Games that several tests use. */
final class Games {
    /** White walks on the main diagonal, black on the other one, so that they never meet. */
    static final String TWO_WALKERS = "game 8 60; bishop 0 0 0; bishop 1 7 0; pass 9 9 9; pass 1 9 9;";

    private Games() {
    }

    /**
     * Day 4: player 0 made move 1 and promised move 3 as the reply to 56-49; player 1 made the moves 2 (over the slow
     * pass) and 4 (over the fast one), and move 4 has overtaken move 2, which will arrive on day 12.
     */
    static MulePostBishops overtaking() {
        MulePostBishops game = Check.start(TWO_WALKERS);
        Check.same("move 1", 1, game.move(0, 0, 9, 1));
        Check.same("promise 3", 3, game.promise(0, 1, 56, 49, 9, 18));
        Check.same("letters until day 2", 2, game.advance(2));
        Check.same("move 2", 2, game.move(1, 56, 49, 0));
        Check.same("move 4", 4, game.move(1, 49, 42, 1));
        Check.same("letters until day 4", 1, game.advance(2));
        return game;
    }

    /** A game on which days pass until the given day. */
    static void passUntil(MulePostBishops game, int day) {
        for (int now = game.day(); now < day; now = Math.min(day, now + 60)) {
            game.advance(Math.min(60, day - now));
        }
        Check.same("day()", day, game.day());
    }

    /** Player 0 has 80 letters posted: one move and its copies. */
    static MulePostBishops fullPost() {
        MulePostBishops game = Check.start(TWO_WALKERS);
        game.move(0, 0, 9, 1);
        Check.same("40 copies", 40, Check.run(game, "repeat 20 (resend 0 1; resend 0 1;);"));
        Check.same("39 copies", 39, Check.run(game, "repeat 20 (resend 0 1; resend 0 1;);"));
        Check.same("letterCount()", 80, game.letterCount());
        return game;
    }
}
