/** Every character in every place of a text, and long texts. */
public final class TextsTest {
    private static final Check CHECK = new Check();
    private static final int BAD_TEXT = SeekLeague.BAD_TEXT;
    private static final int NONE = SeekLeague.NONE;

    public static void main(String[] args) {
        everyCharacterInEveryPlace();
        playMakesAllMoves();
        playOfAFullBuffer();
        theBufferIsNoPartOfTheState();
        CHECK.finish("TextsTest");
    }

    private static void everyCharacterInEveryPlace() {
        String[] starts = {"", "h", "h3", "h3c", "b", "d", "d3", "c", "c3", "+", "-", "b,"};
        String[] allowed = {"hb+-cd", "01234567", "abcdefghijklmnop", ",", ",", "01234567", ",",
            "01234567", "abcdefghijklmnop", ",", ",", "hb+-cd"};
        for (int i = 0; i < starts.length; i++) {
            for (char sign = 33; sign <= 126; sign++) {
                SeekLeague x = new SeekLeague();
                Leagues.write(x, starts[i] + sign);
                boolean isError = x.errorPosition() == starts[i].length();
                CHECK.holds(starts[i] + sign, isError == (allowed[i].indexOf(sign) < 0));
            }
        }
    }

    private static void playMakesAllMoves() {
        SeekLeague x = Leagues.withPlayers(4);
        x.start(0, 8);
        Leagues.write(x, "h1b,h3p,h2h,b,+,c1b,+,d3,-,c2a,c2c");
        CHECK.due("play()", x.play(), 11);
        CHECK.due("the buffer is empty", x.clearText(), 0);
        CHECK.due("the round has ended", x.total(1), 1);
        CHECK.due("0 has 2 - 1 - 1 points", x.player(0, 0), 0);
        CHECK.due("1 was found", x.player(1, 0), 0);
        CHECK.due("2 escaped at the end", x.player(2, 0), 1);
        CHECK.due("3 escaped by a dash", x.player(3, 0), 3);
    }

    private static void playOfAFullBuffer() {
        SeekLeague x = Leagues.seeking(8, 4);
        Leagues.write(x, "+,".repeat(28) + "c1m,");
        CHECK.due("a comma as the last of 60", x.errorPosition(), 60);
        CHECK.due("play() of it", x.play(), BAD_TEXT);
        CHECK.due("it stays", x.clearText(), 60);
        Leagues.write(x, "+,".repeat(27) + "c1l,d1");
        CHECK.due("a text of 60", x.errorPosition(), NONE);
        CHECK.due("play() of it", x.play(), 29);
        CHECK.due("the seeker is at 11", x.total(5), 11);
        CHECK.due("a false cry", x.total(6), 1);
        CHECK.due("1 is found", x.total(7), 1);
        Leagues.write(x, "c2c," + "-,".repeat(27) + "d2");
        CHECK.due("the first move is too far", x.play(), 0);
        CHECK.due("the seeker is at 11", x.total(5), 11);
    }

    private static void theBufferIsNoPartOfTheState() {
        SeekLeague x = Leagues.withPlayers(2);
        Leagues.write(x, "b");
        x.undo();
        CHECK.due("it stays at an undo", x.append(','), 2);
        x.save();
        x.append('b');
        x.restore();
        CHECK.due("it stays at a restore", x.clearText(), 3);
        Leagues.write(x, "b");
        x.play();
        x.undo();
        CHECK.due("it stays empty", x.clearText(), 0);
    }
}
