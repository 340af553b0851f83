/** "Terms": the texts and undo. */
final class SentencesOfTextsAndUndo {
    private static final int NOT_POSSIBLE = SeekLeague.NOT_POSSIBLE;
    private static final int LIMIT = SeekLeague.LIMIT;
    private static final int NONE = SeekLeague.NONE;
    private static final String TERMS = "Terms";

    private SentencesOfTextsAndUndo() {
    }

    static void check(Sentences s) {
        sixtyCharacters(s);
        theText(s);
        theMoves(s);
        hide(s);
        seekAndWalk(s);
        cry(s);
        dash(s);
        aPlayer(s);
        aSpot(s);
        anError(s);
        fiveStates(s);
        whatTheStateIs(s);
    }

    private static int errorIn(String text) {
        SeekLeague x = new SeekLeague();
        Leagues.write(x, text);
        return x.errorPosition();
    }

    private static void sixtyCharacters(Sentences s) {
        s.of(TERMS, "Texts. A buffer of at most 60 characters holds moves:");
        SeekLeague x = new SeekLeague();
        String text = "+,".repeat(28) + "h1a,";
        for (int i = 0; i < 59; i++) {
            x.append(text.charAt(i));
        }
        s.due("59 characters are a text", x.errorPosition(), NONE);
        s.due("the 60th", x.append(','), 60);
        s.due("the 61st", x.append('b'), LIMIT);
        s.due("the buffer begins a text", x.errorPosition(), 60);
        s.due("a text of 60 characters", errorIn("h1a," + "d0,".repeat(18) + "d7"), NONE);
    }

    private static void theText(Sentences s) {
        s.of(TERMS, "```text text = move { \",\" move }");
        s.due("one move", errorIn("b"), NONE);
        s.due("two moves", errorIn("b,+"), NONE);
        s.due("many moves", errorIn("b,+,-,b,b,+"), NONE);
        s.due("no move", errorIn(""), 0);
        s.due("a comma first", errorIn(",b"), 0);
        s.due("a comma last", errorIn("b,"), 2);
        s.due("two commas", errorIn("b,,b"), 2);
        s.due("no comma", errorIn("b+"), 1);
        s.due("another sign between", errorIn("b;+"), 1);
    }

    private static void theMoves(Sentences s) {
        s.of(TERMS, "move = \"h\" player spot | \"b\" | \"+\" | \"-\" | \"c\" player spot | \"d\" player ```");
        String[] moves = {"h0a", "b", "+", "-", "c0a", "d0"};
        for (String move : moves) {
            s.due(move, errorIn(move), NONE);
            for (int length = 1; length < move.length(); length++) {
                s.due("the beginning of " + move, errorIn(move.substring(0, length)), length);
            }
            s.due(move + " and a spot", errorIn(move + "a"), move.length());
            s.due(move + " and a player", errorIn(move + "0"), move.length() == 1 ? 1 : move.length());
        }
        s.due("a spot ahead of the player", errorIn("ha0"), 1);
        s.due("a great letter", errorIn("H0a"), 0);
        s.due("a way to stay", errorIn("0"), 0);
    }

    private static SeekLeague hiding() {
        SeekLeague x = Leagues.withPlayers(3);
        x.start(0, 8);
        return x;
    }

    private static int play(SeekLeague x, String text) {
        Leagues.write(x, text);
        return x.play();
    }

    private static void hide(Sentences s) {
        s.of(TERMS, "\"h\" hides a player at a spot,");
        SeekLeague x = hiding();
        s.due("h2e", play(x, "h2e"), 1);
        s.due("2 hides at 4", x.player(2, 6), 4);
        s.due("1 doesn't", x.player(1, 6), NONE);
    }

    private static void seekAndWalk(Sentences s) {
        s.of(TERMS, "\"b\" begins to seek,");
        SeekLeague x = hiding();
        x.hide(1, 8);
        s.due("b", play(x, "b"), 1);
        s.due("seeking", x.total(2), 2);
        s.of(TERMS, "\"+\" and \"-\" walk to the next spot with a higher and with a lower number (around the circle),");
        s.due("-", play(x, "-"), 1);
        s.due("around to 15", x.total(5), 15);
        s.due("-", play(x, "-"), 1);
        s.due("at 14", x.total(5), 14);
        s.due("+,+", play(x, "+,+"), 2);
        s.due("around to 0", x.total(5), 0);
        s.due("+", play(x, "+"), 1);
        s.due("at 1", x.total(5), 1);
    }

    private static void cry(Sentences s) {
        s.of(TERMS, "\"c\" cries,");
        SeekLeague x = Leagues.seeking(1, 15);
        s.due("c2p", play(x, "c2p"), 1);
        s.due("2 is found", x.player(2, 6), NONE);
        s.due("2 points", x.player(0, 0), 2);
        s.due("c1p", play(x, "c1p"), 1);
        s.due("a false cry", x.total(6), 1);
    }

    private static void dash(Sentences s) {
        s.of(TERMS, "and \"d\" lets a player dash.");
        SeekLeague x = Leagues.seeking(1, 8);
        s.due("+,+,d1", play(x, "+,+,d1"), 3);
        s.due("1 has escaped", x.player(1, 4), 1);
        s.due("d2", play(x, "d2"), 1);
        s.due("2 is found", x.player(0, 2), 1);
    }

    private static void aPlayer(Sentences s) {
        s.of(TERMS, "A player is a digit from 0 to 7;");
        for (char digit = '0' - 1; digit <= '9' + 1; digit++) {
            boolean isPlayer = digit >= '0' && digit <= '7';
            s.due("d" + digit, errorIn("d" + digit), isPlayer ? NONE : 1);
            s.due("h" + digit, errorIn("h" + digit), isPlayer ? 2 : 1);
            s.due("c" + digit, errorIn("c" + digit), isPlayer ? 2 : 1);
        }
        s.due("also one who hasn't joined", errorIn("h7a,c7a,d7"), NONE);
        SeekLeague x = Leagues.withPlayers(8);
        x.start(0, 8);
        s.due("players 1 to 7", play(x, "h1b,h2c,h3d,h4e,h5f,h6g,h7h"), 7);
        for (int player = 1; player < 8; player++) {
            s.due("the spot of " + player, x.player(player, 6), player);
        }
        x.undo();
        x.undo();
        x.start(7, 8);
        s.due("player 0", play(x, "h0p"), 1);
        s.due("its spot", x.player(0, 6), 15);
    }

    private static void aSpot(Sentences s) {
        s.of(TERMS, "a spot is a letter from \"a\" to \"p\" for the spots 0 to 15.");
        for (char letter = 'a' - 1; letter <= 'q'; letter++) {
            boolean isSpot = letter >= 'a' && letter <= 'p';
            s.due("h1" + letter, errorIn("h1" + letter), isSpot ? NONE : 2);
            s.due("c1" + letter, errorIn("c1" + letter), isSpot ? NONE : 2);
        }
        for (int spot = 1; spot < 16; spot++) {
            SeekLeague x = hiding();
            s.due("hide at " + spot, play(x, "h1" + (char) ('a' + spot)), 1);
            s.due("its spot", x.player(1, 6), spot);
        }
        SeekLeague x = hiding();
        s.due("a is the base", play(x, "h1a"), 0);
        s.due("nobody hides", x.total(7), 0);
    }

    private static void anError(Sentences s) {
        s.of(TERMS, "A character of the buffer is an error if no text begins with the characters ahead of it and this "
                + "character.");
        s.due("the first one", errorIn("xb"), 0);
        s.due("the last one", errorIn("b,h1aa"), 5);
        s.due("the first of several", errorIn("b,!,!"), 2);
        s.due("what is right by itself, behind an error", errorIn("bb,b"), 1);
        s.due("none in the beginning of a text", errorIn("b,c1"), 4);
        String longest = "b," + "d7,".repeat(19);
        s.due("an error at the last place", errorIn(longest + "x"), 59);
        s.due("a beginning up to the last place", errorIn(longest + "h"), 60);
        s.due("a comma at the last place", errorIn("+,".repeat(30)), 60);
    }

    private static void fiveStates(Sentences s) {
        s.of(TERMS, "At most 5 states are kept; when a sixth one is recorded, the oldest one is discarded.");
        for (int calls = 1; calls <= 12; calls++) {
            SeekLeague x = new SeekLeague();
            for (int i = 1; i <= calls; i++) {
                x.set(2, i == 1 ? 0 : (i + 1) % 10);
            }
            int kept = Math.min(5, calls);
            for (int left = kept - 1; left >= 0; left--) {
                s.due("undo() after " + calls + " calls", x.undo(), left);
            }
            s.due("no more", x.undo(), NOT_POSSIBLE);
            int last = calls - kept;
            s.due("the oldest kept of " + calls, x.setting(2), last == 0 ? 2 : last == 1 ? 0 : (last + 1) % 10);
        }
    }

    private static void whatTheStateIs(Sentences s) {
        s.of(TERMS, "The state is everything except the buffer, the saved state of save() and the recorded states.");
        SeekLeague x = Leagues.withPlayers(2);
        Leagues.write(x, "b");
        x.save();
        x.join();
        x.append(',');
        s.due("undo()", x.undo(), 2);
        s.due("the players are back", x.total(0), 2);
        s.due("the buffer isn't", x.append('b'), 3);
        x.undo();
        s.due("the saved state isn't", x.restore(), 2);
        s.due("the buffer isn't by restore()", x.errorPosition(), NONE);
        s.due("the recorded states aren't by restore()", x.undo(), 1);
        s.due("the players ahead of it", x.total(0), 1);
        s.due("saved still", x.restore(), 2);
    }
}
