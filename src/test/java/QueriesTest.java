/** Promises 11 to 15: player, spot, ranked, nextSeeker, total. */
public final class QueriesTest {
    private static final Check CHECK = new Check();
    private static final int NO_SUCH = SeekLeague.NO_SUCH;
    private static final int BAD_VALUE = SeekLeague.BAD_VALUE;
    private static final int NONE = SeekLeague.NONE;

    public static void main(String[] args) {
        playerRefusals();
        playerParts();
        spotRefusals();
        spotParts();
        ranksByPoints();
        ranksByFalseCries();
        rankedRefusals();
        nextSeekers();
        totals();
        aFullLeague();
        totalRefusals();
        CHECK.finish("QueriesTest");
    }

    private static void playerRefusals() {
        SeekLeague x = Leagues.withPlayers(2);
        CHECK.due("player(2, 7)", x.player(2, 7), NO_SUCH);
        CHECK.due("player(-1, 0)", x.player(-1, 0), NO_SUCH);
        CHECK.due("player(MAX, 0)", x.player(Integer.MAX_VALUE, 0), NO_SUCH);
        CHECK.due("player(1, 7)", x.player(1, 7), BAD_VALUE);
        CHECK.due("player(1, -1)", x.player(1, -1), BAD_VALUE);
        CHECK.due("player(1, MIN)", x.player(1, Integer.MIN_VALUE), BAD_VALUE);
    }

    private static void playerParts() {
        SeekLeague x = Leagues.seeking(1, 2, 5);
        x.cry(1, 1);
        x.cry(1, 1);
        Leagues.walk(x, 1, 3);
        x.dash(2);
        int[] seeker = {1, 1, 1, 1, 0, 1, NONE};
        int[] found = {0, 0, 0, 0, 0, 2, NONE};
        int[] escaped = {3, 0, 0, 0, 1, 0, NONE};
        int[] hidden = {0, 0, 0, 0, 0, 3, 5};
        int[][] all = {seeker, found, escaped, hidden};
        for (int player = 0; player < all.length; player++) {
            for (int part = 0; part < 7; part++) {
                CHECK.due("player(" + player + ", " + part + ")", x.player(player, part), all[player][part]);
            }
        }
    }

    private static void spotRefusals() {
        SeekLeague x = new SeekLeague();
        CHECK.due("spot(16, 4)", x.spot(16, 4), NO_SUCH);
        CHECK.due("spot(-1, 0)", x.spot(-1, 0), NO_SUCH);
        CHECK.due("spot(MIN, 0)", x.spot(Integer.MIN_VALUE, 0), NO_SUCH);
        CHECK.due("spot(15, 4)", x.spot(15, 4), BAD_VALUE);
        CHECK.due("spot(0, -1)", x.spot(0, -1), BAD_VALUE);
        CHECK.due("spot(0, MAX)", x.spot(0, Integer.MAX_VALUE), BAD_VALUE);
    }

    private static void spotParts() {
        SeekLeague x = Leagues.seeking(1, 7, 1, 7, 15);
        x.set(1, 1);
        for (int spot = 0; spot < 16; spot++) {
            CHECK.due("spot(" + spot + ", 0)", x.spot(spot, 0), Math.min(spot, 16 - spot));
        }
        CHECK.due("hiders at 1", x.spot(1, 3), 0b1010);
        CHECK.due("hiders at 7", x.spot(7, 3), 0b10100);
        CHECK.due("hiders at the base", x.spot(0, 3), 0);
        x.cry(3, 1);
        CHECK.due("hiders at 1", x.spot(1, 3), 0b10);
        CHECK.due("finds at 1", x.spot(1, 1), 1);
        CHECK.due("1 is retired", x.spot(1, 2), 1);
        CHECK.due("7 is not", x.spot(7, 2), 0);
        x.dash(2);
        CHECK.due("no finds at 7", x.spot(7, 1), 0);
        CHECK.due("the last player", Leagues.seeking(1, 2, 3, 4, 5, 6, 7).spot(7, 3), 0b10000000);
    }

    private static void ranksByPoints() {
        SeekLeague x = Leagues.seeking(1, 2, 4);
        Leagues.walk(x, 1, 3);
        x.dash(2);
        x.cry(3, 4);
        int[] order = {2, 0, 1, 3};
        checkRanks(x, order);
    }

    /** 1 has as many points as 0 and 2, who have a false cry each. */
    private static void ranksByFalseCries() {
        SeekLeague x = Leagues.withPlayers(5);
        playRoundWithAFalseCry(x, 0, 3);
        playRoundWithAFalseCry(x, 2, 4);
        int[] points = {0, 0, 0, 3, 3};
        for (int player = 0; player < points.length; player++) {
            CHECK.due("points of " + player, x.player(player, 0), points[player]);
        }
        checkRanks(x, new int[] {3, 4, 1, 0, 2});
    }

    /** The seeker loses a point and gets one for stopping player 1; the other one escapes. */
    private static void playRoundWithAFalseCry(SeekLeague x, int seeker, int escaping) {
        x.start(seeker, 1);
        x.hide(1, 1);
        x.hide(escaping, 1);
        x.seek();
        x.cry(1, 0);
        x.dash(1);
        Leagues.walk(x, 1, 2);
        x.dash(escaping);
    }

    private static void checkRanks(SeekLeague x, int[] order) {
        for (int place = 0; place < order.length; place++) {
            CHECK.due("ranked(" + place + ")", x.ranked(place), order[place]);
            CHECK.due("place of " + order[place], x.player(order[place], 5), place);
        }
        CHECK.due("behind the last place", x.ranked(order.length), NO_SUCH);
    }

    private static void rankedRefusals() {
        SeekLeague x = Leagues.withPlayers(2);
        CHECK.due("ranked(-1)", x.ranked(-1), NO_SUCH);
        CHECK.due("ranked(0)", x.ranked(0), 0);
        CHECK.due("ranked(1)", x.ranked(1), 1);
        CHECK.due("ranked(2)", x.ranked(2), NO_SUCH);
        CHECK.due("ranked(MAX)", x.ranked(Integer.MAX_VALUE), NO_SUCH);
        CHECK.due("ranked(MIN)", x.ranked(Integer.MIN_VALUE), NO_SUCH);
    }

    private static void nextSeekers() {
        SeekLeague x = Leagues.withPlayers(3);
        CHECK.due("the last in the ranks", x.nextSeeker(), 2);
        x.start(2, 1);
        CHECK.due("in the round already", x.nextSeeker(), 1);
        x.hide(1, 1);
        x.seek();
        x.walk(1);
        x.walk(1);
        x.dash(1);
        CHECK.due("fewer points", x.nextSeeker(), 0);
        Leagues.playEmptyRound(x, 0);
        CHECK.due("fewer rounds", x.nextSeeker(), 1);
        Leagues.playEmptyRound(x, 1);
        CHECK.due("all have one", x.nextSeeker(), 2);
        x.join();
        CHECK.due("a new player", x.nextSeeker(), 3);
    }

    private static void totals() {
        SeekLeague x = Leagues.seeking(1, 1, 15, 8);
        x.set(3, 5);
        x.set(1, 1);
        x.cry(1, 1);
        x.cry(1, 1);
        x.cry(4, 1);
        x.walk(1);
        x.walk(1);
        x.dash(3);
        int[] due = {5, 0, 2, 0, 8, 2, 2, 2, 1, 3};
        for (int what = 0; what < due.length; what++) {
            CHECK.due("total(" + what + ")", x.total(what), due[what]);
        }
        x.cry(2, 1);
        x.dash(4);
        int[] then = {5, 1, 0, NONE, NONE, NONE, 0, 0, 1, 6};
        for (int what = 0; what < then.length; what++) {
            CHECK.due("then total(" + what + ")", x.total(what), then[what]);
        }
        x.start(3, 4);
        x.hide(0, 3);
        int[] hiding = {5, 1, 1, 3, 4, NONE, 0, 1, 1, 6};
        for (int what = 0; what < hiding.length; what++) {
            CHECK.due("at hiding total(" + what + ")", x.total(what), hiding[what]);
        }
    }

    private static void aFullLeague() {
        SeekLeague x = Leagues.seeking(1, 1, 2, 2, 3, 3, 8);
        CHECK.due("total(0)", x.total(0), 8);
        CHECK.due("total(7)", x.total(7), 7);
        Leagues.walk(x, -1, 4);
        CHECK.due("dash(7)", x.dash(7), 0);
        CHECK.due("dash(1)", x.dash(1), 1);
        CHECK.due("total(9)", x.total(9), 4);
        CHECK.due("ranked(7)", x.ranked(7), 7);
        CHECK.due("place of 7", x.player(7, 5), 7);
        CHECK.due("nextSeeker()", x.nextSeeker(), 7);
    }

    private static void totalRefusals() {
        SeekLeague x = new SeekLeague();
        int[] bad = {-1, 10, Integer.MIN_VALUE, Integer.MAX_VALUE};
        for (int what : bad) {
            CHECK.due("total(" + what + ")", x.total(what), BAD_VALUE);
        }
    }
}
