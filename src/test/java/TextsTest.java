/** Promises 20 to 23: append, clearText, errorPosition, play. */
public final class TextsTest {
    private static final Check CHECK = new Check();
    private static final int BAD_VALUE = SeekLeague.BAD_VALUE;
    private static final int BAD_TEXT = SeekLeague.BAD_TEXT;
    private static final int NONE = SeekLeague.NONE;

    public static void main(String[] args) {
        appendCounts();
        appendRefusals();
        appendUpToTheLimit();
        clearTextCounts();
        texts();
        unfinishedTexts();
        errors();
        everyCharacterInEveryPlace();
        errorPositionChangesNothing();
        playMakesAllMoves();
        playWalksBothWays();
        playStopsAtARefusal();
        playWithoutAMove();
        playOfABadText();
        playOfAFullBuffer();
        playRecordsOneState();
        theBufferIsNoPartOfTheState();
        CHECK.finish("TextsTest");
    }

    private static void appendCounts() {
        SeekLeague x = new SeekLeague();
        CHECK.due("append(33)", x.append(33), 1);
        CHECK.due("append(126)", x.append(126), 2);
        CHECK.due("append('h')", x.append('h'), 3);
    }

    private static void appendRefusals() {
        SeekLeague x = new SeekLeague();
        int[] bad = {32, 127, 0, -1, 65536 + 'b', Integer.MIN_VALUE, Integer.MAX_VALUE};
        for (int code : bad) {
            CHECK.due("append(" + code + ")", x.append(code), BAD_VALUE);
        }
        CHECK.due("still empty", x.clearText(), 0);
    }

    private static void appendUpToTheLimit() {
        SeekLeague x = new SeekLeague();
        for (int i = 1; i <= 60; i++) {
            CHECK.due("append the " + i, x.append('+'), i);
        }
        CHECK.due("append the 61st", x.append('+'), SeekLeague.LIMIT);
        CHECK.due("append a bad one to a full buffer", x.append(32), BAD_VALUE);
        CHECK.due("clearText()", x.clearText(), 60);
        CHECK.due("append again", x.append('+'), 1);
    }

    private static void clearTextCounts() {
        SeekLeague x = new SeekLeague();
        Leagues.write(x, "h1a");
        CHECK.due("clearText()", x.clearText(), 3);
        CHECK.due("clearText() again", x.clearText(), 0);
        CHECK.due("it is empty", x.errorPosition(), 0);
    }

    private static void dueError(String text, int position) {
        SeekLeague x = new SeekLeague();
        Leagues.write(x, text);
        CHECK.due("error in " + text, x.errorPosition(), position);
    }

    private static void texts() {
        String[] texts = {"b", "+", "-", "h0a", "h7p", "c0a", "c7p", "d0", "d7", "h1f,h2l,b,+,+,-,c1e,d2"};
        for (String text : texts) {
            dueError(text, NONE);
        }
    }

    private static void unfinishedTexts() {
        String[] starts = {"", "h", "h1", "c", "c3", "d", "b,", "h1a,", "d2,h", "+,-,c7"};
        for (String start : starts) {
            dueError(start, start.length());
        }
    }

    private static void errors() {
        dueError("x", 0);
        dueError(",", 0);
        dueError("1", 0);
        dueError("h8", 1);
        dueError("h/", 1);
        dueError("h0q", 2);
        dueError("h0`", 2);
        dueError("ha", 1);
        dueError("c8a", 1);
        dueError("c0A", 2);
        dueError("d8", 1);
        dueError("d0a", 2);
        dueError("d0+", 2);
        dueError("bb", 1);
        dueError("b1", 1);
        dueError("+-", 1);
        dueError("b,,", 2);
        dueError("h1aa", 3);
        dueError("h1,", 2);
        dueError("b,x,x", 2);
        dueError("b,h1a;b", 5);
        dueError("B", 0);
    }

    private static void everyCharacterInEveryPlace() {
        String[] starts = {"", "h", "h3", "h3c", "b", "d", "d3", "c", "c3", "+", "-", "b,"};
        String[] allowed = {"hb+-cd", "01234567", "abcdefghijklmnop", ",", ",", "01234567", ",",
            "01234567", "abcdefghijklmnop", ",", ",", "hb+-cd"};
        for (int i = 0; i < starts.length; i++) {
            for (char sign = 33; sign <= 126; sign++) {
                SeekLeague x = new SeekLeague();
                Leagues.write(x, starts[i] + sign);
                boolean isError = x.errorPosition() == starts[i].length();
                CHECK.holds(starts[i] + sign, isError == (allowed[i].indexOf(sign) < 0));
            }
        }
    }

    private static void errorPositionChangesNothing() {
        SeekLeague x = new SeekLeague();
        Leagues.write(x, "bx");
        CHECK.due("errorPosition()", x.errorPosition(), 1);
        CHECK.due("errorPosition() again", x.errorPosition(), 1);
        CHECK.due("clearText()", x.clearText(), 2);
    }

    private static void playMakesAllMoves() {
        SeekLeague x = Leagues.withPlayers(4);
        x.start(0, 8);
        Leagues.write(x, "h1b,h3p,h2h,b,+,c1b,+,d3,-,c2a,c2c");
        CHECK.due("play()", x.play(), 11);
        CHECK.due("the buffer is empty", x.clearText(), 0);
        CHECK.due("the round has ended", x.total(1), 1);
        CHECK.due("0 has 2 - 1 - 1 points", x.player(0, 0), 0);
        CHECK.due("1 was found", x.player(1, 0), 0);
        CHECK.due("2 escaped at the end", x.player(2, 0), 1);
        CHECK.due("3 escaped by a dash", x.player(3, 0), 3);
    }

    private static void playWalksBothWays() {
        SeekLeague x = Leagues.seeking(8);
        Leagues.write(x, "-,-,-,+");
        CHECK.due("play()", x.play(), 4);
        CHECK.due("the seeker is at 14", x.total(5), 14);
    }

    private static void playStopsAtARefusal() {
        SeekLeague x = Leagues.withPlayers(3);
        x.start(0, 4);
        Leagues.write(x, "h1d,h2f,b,+");
        CHECK.due("too far", x.play(), 1);
        CHECK.due("the buffer is empty", x.clearText(), 0);
        CHECK.due("still hiding", x.total(2), 1);
        CHECK.due("1 hides", x.player(1, 6), 3);
        Leagues.write(x, "b,h2b,+");
        CHECK.due("no hiding at seeking", x.play(), 1);
        CHECK.due("at the base", x.total(5), 0);
        Leagues.write(x, "+,b,+");
        CHECK.due("no second seek", x.play(), 1);
        Leagues.write(x, "+,d2,+");
        CHECK.due("2 can't dash", x.play(), 1);
        Leagues.write(x, "-,c1f,+");
        CHECK.due("too far to see", x.play(), 1);
        CHECK.due("at 1", x.total(5), 1);
        Leagues.write(x, "+,h7a");
        CHECK.due("no such player", x.play(), 1);
        Leagues.write(x, "c1d,+");
        CHECK.due("the round ends", x.play(), 1);
    }

    private static void playWithoutAMove() {
        SeekLeague x = new SeekLeague();
        Leagues.write(x, "b,b");
        CHECK.due("play()", x.play(), 0);
        CHECK.due("the buffer is empty", x.clearText(), 0);
        CHECK.due("a state was recorded", x.undo(), 0);
    }

    private static void playOfABadText() {
        SeekLeague x = Leagues.withPlayers(2);
        CHECK.due("play() of nothing", x.play(), BAD_TEXT);
        x.start(0, 8);
        Leagues.write(x, "h1b,");
        CHECK.due("play() of a beginning", x.play(), BAD_TEXT);
        CHECK.due("nobody hides", x.total(7), 0);
        CHECK.due("the buffer stays", x.append('b'), 5);
        CHECK.due("no state was recorded", x.undo(), 2);
        x.start(0, 8);
        CHECK.due("play() of it all", x.play(), 2);
    }

    private static void playOfAFullBuffer() {
        SeekLeague x = Leagues.seeking(8, 4);
        Leagues.write(x, "+,".repeat(28) + "c1m,");
        CHECK.due("a comma as the last of 60", x.errorPosition(), 60);
        CHECK.due("play() of it", x.play(), BAD_TEXT);
        CHECK.due("it stays", x.clearText(), 60);
        Leagues.write(x, "+,".repeat(27) + "c1l,d1");
        CHECK.due("a text of 60", x.errorPosition(), NONE);
        CHECK.due("play() of it", x.play(), 29);
        CHECK.due("the seeker is at 11", x.total(5), 11);
        CHECK.due("a false cry", x.total(6), 1);
        CHECK.due("1 is found", x.total(7), 1);
        Leagues.write(x, "c2c," + "-,".repeat(27) + "d2");
        CHECK.due("the first move is too far", x.play(), 0);
        CHECK.due("the seeker is at 11", x.total(5), 11);
    }

    private static void playRecordsOneState() {
        SeekLeague x = Leagues.withPlayers(2);
        x.start(0, 8);
        Leagues.write(x, "h1h,b,+,+,+,+,+,+");
        CHECK.due("play()", x.play(), 8);
        CHECK.due("undo()", x.undo(), 3);
        CHECK.due("back at hiding", x.total(2), 1);
        CHECK.due("nobody hides", x.total(7), 0);
        CHECK.due("no spot", x.total(5), NONE);
    }

    private static void theBufferIsNoPartOfTheState() {
        SeekLeague x = Leagues.withPlayers(2);
        Leagues.write(x, "b");
        x.undo();
        CHECK.due("it stays at an undo", x.append(','), 2);
        x.save();
        x.append('b');
        x.restore();
        CHECK.due("it stays at a restore", x.clearText(), 3);
        Leagues.write(x, "b");
        x.play();
        x.undo();
        CHECK.due("it stays empty", x.clearText(), 0);
    }
}
