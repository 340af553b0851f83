/** Promises 20 to 26: the buffer, undo, the saved state. */
final class SentencesOfTextsAndStates {
    private static final int BAD_VALUE = SeekLeague.BAD_VALUE;
    private static final int NOT_POSSIBLE = SeekLeague.NOT_POSSIBLE;
    private static final int LIMIT = SeekLeague.LIMIT;
    private static final int BAD_TEXT = SeekLeague.BAD_TEXT;
    private static final int NONE = SeekLeague.NONE;
    private static final String APPEND = "Promise 20: append";
    private static final String CLEAR = "Promise 21: clearText";
    private static final String ERROR = "Promise 22: errorPosition";
    private static final String PLAY = "Promise 23: play";
    private static final String UNDO = "Promise 24: undo";
    private static final String SAVE = "Promise 25: save";
    private static final String RESTORE = "Promise 26: restore";

    private SentencesOfTextsAndStates() {
    }

    static void check(Sentences s) {
        append(s);
        clearText(s);
        errorPosition(s);
        play(s);
        playUpToARefusal(s);
        playRecordsOneState(s);
        playOfABadText(s);
        undo(s);
        save(s);
        restore(s);
    }

    private static void append(Sentences s) {
        s.of(APPEND, "Appends a character to the buffer.");
        SeekLeague x = new SeekLeague();
        x.append('b');
        s.due("a text", x.errorPosition(), NONE);
        x.append('x');
        s.due("its end is an error", x.errorPosition(), 1);
        s.of(APPEND, "- `code`: 33 to 126");
        s.due("append(33)", x.append(33), 3);
        s.due("append(126)", x.append(126), 4);
        s.of(APPEND, "Returns the number of characters in the buffer;");
        for (int i = 5; i <= 60; i++) {
            s.due("append(" + (28 + i) + ")", x.append(28 + i), i);
        }
        s.of(APPEND, "BAD_VALUE if code is out of range;");
        SeekLeague y = new SeekLeague();
        int[] bad = {32, 127, 0, -1, 256 + 'b', 65536 + 'b', Integer.MIN_VALUE, Integer.MAX_VALUE};
        for (int code : bad) {
            s.due("append(" + code + ")", y.append(code), BAD_VALUE);
        }
        s.due("the buffer is empty", y.clearText(), 0);
        s.of(APPEND, "LIMIT if the buffer contains 60 characters.");
        s.due("the 61st", x.append('b'), LIMIT);
        s.due("the 61st again", x.append('b'), LIMIT);
        s.due("60 are in it", x.clearText(), 60);
        s.due("room again", x.append('b'), 1);
    }

    private static void clearText(Sentences s) {
        s.of(CLEAR, "Empties the buffer and returns the number of characters that it contained.");
        SeekLeague x = new SeekLeague();
        s.due("a new buffer", x.clearText(), 0);
        Leagues.write(x, "x1");
        s.due("two characters", x.clearText(), 2);
        s.due("it is empty", x.clearText(), 0);
        s.due("nothing is left of them", x.append('b'), 1);
        s.due("a text", x.errorPosition(), NONE);
        Leagues.write(x, "~".repeat(60));
        s.due("60 characters", x.clearText(), 60);
    }

    private static void checkError(Sentences s, String text, int due) {
        SeekLeague x = new SeekLeague();
        Leagues.write(x, text);
        s.due(text, x.errorPosition(), due);
    }

    private static void errorPosition(Sentences s) {
        s.of(ERROR, "Finds the first error in the buffer.");
        checkError(s, "b,x,y", 2);
        checkError(s, "b,h8a,h9a", 3);
        s.of(ERROR, "Returns the index of the first character that is an error;");
        checkError(s, "x", 0);
        checkError(s, "hx", 1);
        checkError(s, "h0x", 2);
        checkError(s, "h0bx", 3);
        checkError(s, "h0b,x", 4);
        checkError(s, "+,".repeat(29) + "+x", 59);
        s.of(ERROR, "if there is none and the buffer is not a text, the number of characters in the buffer;");
        checkError(s, "", 0);
        checkError(s, "h", 1);
        checkError(s, "h0", 2);
        checkError(s, "h0b,", 4);
        checkError(s, "h0b,d", 5);
        checkError(s, "+,".repeat(30), 60);
        s.of(ERROR, "NONE if the buffer is a text.");
        checkError(s, "b", NONE);
        checkError(s, "h0b,d0", NONE);
        checkError(s, "+,".repeat(28) + "c7p", NONE);
        checkError(s, "+,".repeat(27) + "c7p,d7", NONE);
    }

    private static SeekLeague hiding(int players) {
        SeekLeague x = Leagues.withPlayers(players);
        x.start(0, 8);
        return x;
    }

    private static int play(SeekLeague x, String text) {
        Leagues.write(x, text);
        return x.play();
    }

    private static void play(Sentences s) {
        s.of(PLAY, "Makes the moves in the buffer one after the other,");
        SeekLeague x = hiding(4);
        play(x, "h1b,h2i,h3o,b,c1b,-,c1a,-,-,d3");
        SeekLeague y = hiding(4);
        y.hide(1, 1);
        y.hide(2, 8);
        y.hide(3, 14);
        y.seek();
        y.cry(1, 1);
        y.walk(-1);
        y.cry(1, 0);
        y.walk(-1);
        y.walk(-1);
        y.dash(3);
        s.holds("as by the calls themselves", Leagues.describe(x).equals(Leagues.describe(y)));
        s.due("3 has escaped", x.player(3, 4), 1);
        s.of(PLAY, "and empties the buffer.");
        s.due("the buffer", x.clearText(), 0);
        play(x, "h1b,b");
        s.due("the buffer after a move that isn't possible", x.clearText(), 0);
        s.of(PLAY, "Returns the number of moves that are made;");
        s.due("one", play(x, "+"), 1);
        s.due("three", play(x, "-,-,c2m"), 3);
        s.due("the round has ended", x.total(2), 0);
        s.due("none", play(x, "b"), 0);
        s.due("thirty", play(Leagues.seeking(8), "+,".repeat(29) + "+"), 30);
    }

    private static void playUpToARefusal(Sentences s) {
        s.of(PLAY, "up to the first one whose method (hide(), seek(), walk(), cry() or dash()) would return an error "
                + "code,");
        SeekLeague x = hiding(3);
        s.due("hide(): the base", play(x, "h1b,h2a,b"), 1);
        s.due("hiding still", x.total(2), 1);
        s.due("hide(): no such player", play(x, "h7b,b"), 0);
        s.due("walk() at hiding", play(x, "+,b"), 0);
        s.due("cry() at hiding", play(x, "c1b,b"), 0);
        s.due("dash() at hiding", play(x, "d1,b"), 0);
        s.due("hiding still", x.total(2), 1);
        s.due("seek() twice", play(x, "h2i,b,b,+"), 2);
        s.due("cry(): too far", play(x, "c2c,+"), 0);
        s.due("cry(): the seeker", play(x, "-,c0p,+"), 1);
        s.due("cry(): no such player", play(x, "c3p,+"), 0);
        s.due("dash(): no such player", play(x, "d3,+"), 0);
        s.due("dash(): the seeker", play(x, "d0,+"), 0);
        s.due("hide() at seeking", play(x, "h2i,+"), 0);
        s.due("the seeker stays", x.total(5), 15);
        s.due("the round ends", play(x, "c1i,c1i,+"), 0);
        s.due("with a last false cry", play(x, "c1p,c1p,+,+"), 2);
        s.due("no round", x.total(2), 0);
        SeekLeague full = hiding(4);
        s.due("hide(): no room", play(full, "h1b,h2b,h3b,b"), 2);
        s.due("hiding still", full.total(2), 1);
    }

    private static void playRecordsOneState(Sentences s) {
        s.of(PLAY, "The moves do not record states;");
        SeekLeague x = hiding(3);
        s.due("eight moves", play(x, "h1b,h2i,b,+,+,-,c1b,d2"), 8);
        s.of(PLAY, "the call records one state, also if no move is made.");
        s.due("undo()", x.undo(), 4);
        s.holds("as ahead of it", Leagues.describe(x).equals(Leagues.describe(hiding(3))));
        SeekLeague y = new SeekLeague();
        s.due("no move", play(y, "b"), 0);
        s.due("undo()", y.undo(), 0);
        s.due("no more", y.undo(), NOT_POSSIBLE);
        s.of(PLAY, "Undoable.");
        SeekLeague z = Leagues.seeking(8);
        play(z, "+,+");
        play(z, "+,+,+");
        s.due("at 5", z.total(5), 5);
        z.undo();
        s.due("at 2", z.total(5), 2);
        z.undo();
        s.due("at the base", z.total(5), 0);
    }

    private static void playOfABadText(Sentences s) {
        s.of(PLAY, "BAD_TEXT if the buffer is not a text (then it stays).");
        SeekLeague x = hiding(2);
        s.due("an empty buffer", x.play(), BAD_TEXT);
        s.due("the beginning of a text", play(x, "h1b,h"), BAD_TEXT);
        s.due("it stays", x.clearText(), 5);
        s.due("an error behind moves", play(x, "h1b,b,x"), BAD_TEXT);
        s.due("nobody hides", x.total(7), 0);
        s.due("it stays", x.errorPosition(), 6);
        s.due("no state is recorded", x.undo(), 2);
        s.due("it stays at an undo", x.clearText(), 7);
        Leagues.write(x, "h1b,");
        x.start(0, 8);
        x.play();
        x.append('b');
        s.due("then it can become a text", x.play(), 2);
    }

    private static void undo(Sentences s) {
        s.of(UNDO, "Makes the latest recorded state current");
        SeekLeague x = Leagues.withPlayers(1);
        x.set(0, 2);
        x.set(0, 3);
        x.undo();
        s.due("the latest", x.setting(0), 2);
        s.of(UNDO, "and discards it from the recorded states.");
        x.undo();
        s.due("the one ahead of it", x.setting(0), 1);
        s.due("players", x.total(0), 1);
        x.set(0, 3);
        x.undo();
        s.due("a call after an undo is undone", x.setting(0), 1);
        s.of(UNDO, "Returns the number of recorded states that remain;");
        SeekLeague y = Leagues.withPlayers(8);
        for (int left = 4; left >= 0; left--) {
            s.due("undo()", y.undo(), left);
            s.due("players", y.total(0), 3 + left);
        }
        s.of(UNDO, "NOT_POSSIBLE if there is none.");
        s.due("none is left", y.undo(), NOT_POSSIBLE);
        s.due("players", y.total(0), 3);
        s.due("none was", new SeekLeague().undo(), NOT_POSSIBLE);
        y.join();
        s.due("one is again", y.undo(), 0);
    }

    private static void save(Sentences s) {
        s.of(SAVE, "Saves the state");
        SeekLeague x = Leagues.seeking(1, 8);
        x.save();
        x.set(1, 1);
        x.cry(1, 1);
        x.cry(1, 1);
        x.cry(1, 1);
        s.due("the round has ended", x.total(2), 0);
        x.restore();
        s.holds("as it was", Leagues.describe(x).equals(Leagues.describe(Leagues.seeking(1, 8))));
        s.of(SAVE, "and overwrites the state that was saved before.");
        x.set(0, 3);
        x.save();
        x.set(0, 0);
        x.restore();
        s.due("the later one", x.setting(0), 3);
        s.of(SAVE, "Returns the number of players.");
        s.due("of none", new SeekLeague().save(), 0);
        s.due("of one", Leagues.withPlayers(1).save(), 1);
        s.due("of 8", Leagues.withPlayers(8).save(), 8);
    }

    private static void restore(Sentences s) {
        s.of(RESTORE, "Makes the saved state current;");
        SeekLeague x = Leagues.withPlayers(2);
        x.save();
        x.join();
        x.set(2, 0);
        x.restore();
        s.holds("as it was", Leagues.describe(x).equals(Leagues.describe(Leagues.withPlayers(2))));
        s.of(RESTORE, "it remains saved.");
        x.start(0, 8);
        x.hide(1, 1);
        s.due("again", x.restore(), 2);
        s.holds("as it was", Leagues.describe(x).equals(Leagues.describe(Leagues.withPlayers(2))));
        s.of(RESTORE, "Undoable.");
        s.due("undo()", x.undo(), 4);
        s.due("hidden again", x.player(1, 6), 1);
        x.restore();
        x.restore();
        s.due("undo() of one without a difference", x.undo(), 4);
        s.due("players", x.total(0), 2);
        s.of(RESTORE, "Returns the number of players then;");
        SeekLeague y = new SeekLeague();
        y.save();
        y.join();
        s.due("of none", y.restore(), 0);
        s.due("then there is none", y.total(0), 0);
        SeekLeague z = Leagues.withPlayers(8);
        z.save();
        z.undo();
        s.due("of 8", z.restore(), 8);
        s.of(RESTORE, "NOT_POSSIBLE if no state was saved.");
        s.due("none was saved", Leagues.withPlayers(2).restore(), NOT_POSSIBLE);
        s.due("none was saved, without players", new SeekLeague().restore(), NOT_POSSIBLE);
    }
}
