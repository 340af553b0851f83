/** Promises 11 to 19: what there is, and the predictions. */
final class SentencesOfQuestions {
    private static final int NO_SUCH = SeekLeague.NO_SUCH;
    private static final int BAD_VALUE = SeekLeague.BAD_VALUE;
    private static final int NOT_POSSIBLE = SeekLeague.NOT_POSSIBLE;
    private static final int NONE = SeekLeague.NONE;
    private static final String PLAYER = "Promise 11: player";
    private static final String SPOT = "Promise 12: spot";
    private static final String RANKED = "Promise 13: ranked";
    private static final String NEXT = "Promise 14: nextSeeker";
    private static final String TOTAL = "Promise 15: total";
    private static final String SIGHT = "Promise 16: inSight";
    private static final String COULD = "Promise 17: couldDash";
    private static final String BEST = "Promise 18: bestSpot";
    private static final String STEPS = "Promise 19: fewestSteps";

    private SentencesOfQuestions() {
    }

    static void check(Sentences s) {
        player(s);
        playerRefusals(s);
        spot(s);
        spotRefusals(s);
        ranked(s);
        nextSeeker(s);
        totalsOfTheLeague(s);
        totalsOfTheRound(s);
        totalRefusals(s);
        inSight(s);
        couldDash(s);
        bestSpot(s);
        bestSpotRefusals(s);
        fewestSteps(s);
    }

    private static void player(Sentences s) {
        s.of(PLAYER, "Returns something about a player.");
        s.of(PLAYER, "Returns the number;");
        SeekLeague x = Leagues.seeking(1, 2, 5);
        x.cry(1, 1);
        x.cry(1, 1);
        Leagues.walk(x, 1, 3);
        x.dash(2);
        s.of(PLAYER, "- `player`: number of the player");
        s.due("points of 0", x.player(0, 0), 1);
        s.due("points of 3", x.player(3, 0), 0);
        s.of(PLAYER, "- `part`: 0 for the points,");
        s.due("the seeker", x.player(0, 0), 1);
        s.due("the one who escaped", x.player(2, 0), 3);
        s.of(PLAYER, "1 for the rounds as the seeker,");
        s.due("the seeker", x.player(0, 1), 1);
        s.due("another", x.player(1, 1), 0);
        s.of(PLAYER, "2 for the players found,");
        s.due("the seeker", x.player(0, 2), 1);
        s.due("another", x.player(1, 2), 0);
        s.of(PLAYER, "3 for the false cries,");
        s.due("the seeker", x.player(0, 3), 1);
        s.due("another", x.player(2, 3), 0);
        s.of(PLAYER, "4 for the escapes,");
        s.due("the seeker", x.player(0, 4), 0);
        s.due("the one who escaped", x.player(2, 4), 1);
        s.due("the one who is hidden", x.player(3, 4), 0);
        s.of(PLAYER, "5 for the place in the ranks (0 for the first),");
        int[] places = {1, 2, 0, 3};
        for (int player = 0; player < 4; player++) {
            s.due("the place of " + player, x.player(player, 5), places[player]);
        }
        s.of(PLAYER, "6 for the spot where the player hides (NONE if the player is not hidden)");
        s.due("the one who is hidden", x.player(3, 6), 5);
        s.due("the seeker", x.player(0, 6), NONE);
        s.due("the one who is found", x.player(1, 6), NONE);
        s.due("the one who escaped", x.player(2, 6), NONE);
        x.undo();
        s.due("the one who is hidden again", x.player(2, 6), 2);
    }

    private static void playerRefusals(Sentences s) {
        s.of(PLAYER, "NO_SUCH if there is no such player;");
        SeekLeague x = Leagues.withPlayers(2);
        s.due("player(-1, 0)", x.player(-1, 0), NO_SUCH);
        s.due("player(2, 0)", x.player(2, 0), NO_SUCH);
        s.due("player(8, 0)", Leagues.withPlayers(8).player(8, 0), NO_SUCH);
        s.due("player(0, 0) without players", new SeekLeague().player(0, 0), NO_SUCH);
        s.due("player(MIN, 0)", x.player(Integer.MIN_VALUE, 0), NO_SUCH);
        s.due("player(MAX, 0)", x.player(Integer.MAX_VALUE, 0), NO_SUCH);
        s.of(PLAYER, "BAD_VALUE if part is out of range.");
        s.due("player(0, -1)", x.player(0, -1), BAD_VALUE);
        s.due("player(1, 7)", x.player(1, 7), BAD_VALUE);
        s.due("player(1, MIN)", x.player(1, Integer.MIN_VALUE), BAD_VALUE);
        s.due("player(1, MAX)", x.player(1, Integer.MAX_VALUE), BAD_VALUE);
    }

    private static void spot(Sentences s) {
        s.of(SPOT, "Returns something about a spot.");
        s.of(SPOT, "Returns the number;");
        SeekLeague x = Leagues.seeking(15, 7, 15, 7, 1, 8, 8);
        x.cry(1, 15);
        x.cry(5, 1);
        s.of(SPOT, "- `spot`: 0 to 15");
        s.due("finds at 0", x.spot(0, 1), 0);
        s.due("finds at 15", x.spot(15, 1), 1);
        s.of(SPOT, "- `part`: 0 for the distance from the base,");
        for (int spot = 0; spot < 16; spot++) {
            s.due("spot(" + spot + ", 0)", x.spot(spot, 0), spot <= 8 ? spot : 16 - spot);
        }
        s.of(SPOT, "1 for the count of finds,");
        s.due("finds at 1", x.spot(1, 1), 1);
        s.due("finds at 7", x.spot(7, 1), 0);
        s.of(SPOT, "2 for whether it is retired (1 or 0),");
        s.due("1 find of 2", x.spot(15, 2), 0);
        x.cry(3, 15);
        s.due("2 finds of 2", x.spot(15, 2), 1);
        s.due("the base", x.spot(0, 2), 0);
        s.of(SPOT, "3 for the players who hide there, as a bit mask");
        s.due("2 and 4", x.spot(7, 3), 0b10100);
        s.due("6 and 7", x.spot(8, 3), 0b11000000);
        s.due("nobody is left", x.spot(15, 3), 0);
        s.due("nobody was", x.spot(9, 3), 0);
        s.due("the base", x.spot(0, 3), 0);
        SeekLeague y = Leagues.withPlayers(2);
        y.start(1, 8);
        y.hide(0, 3);
        s.due("the player 0", y.spot(3, 3), 1);
    }

    private static void spotRefusals(Sentences s) {
        s.of(SPOT, "NO_SUCH if there is no such spot;");
        SeekLeague x = new SeekLeague();
        s.due("spot(-1, 0)", x.spot(-1, 0), NO_SUCH);
        s.due("spot(16, 0)", x.spot(16, 0), NO_SUCH);
        s.due("spot(MIN, 0)", x.spot(Integer.MIN_VALUE, 0), NO_SUCH);
        s.due("spot(MAX, 0)", x.spot(Integer.MAX_VALUE, 0), NO_SUCH);
        s.of(SPOT, "BAD_VALUE if part is out of range.");
        s.due("spot(0, -1)", x.spot(0, -1), BAD_VALUE);
        s.due("spot(15, 4)", x.spot(15, 4), BAD_VALUE);
        s.due("spot(15, MIN)", x.spot(15, Integer.MIN_VALUE), BAD_VALUE);
        s.due("spot(15, MAX)", x.spot(15, Integer.MAX_VALUE), BAD_VALUE);
    }

    private static void ranked(Sentences s) {
        s.of(RANKED, "Returns the player at a place in the ranks.");
        SeekLeague x = Leagues.seeking(1, 8);
        x.cry(2, 1);
        x.cry(1, 1);
        s.due("the seeker, by points", x.ranked(0), 0);
        s.of(RANKED, "Returns the player;");
        s.due("ranked(1)", x.ranked(1), 1);
        s.due("ranked(2)", x.ranked(2), 2);
        x.cry(2, 1);
        s.due("1 and 2 as 0, whose points are fewer by false cries", x.ranked(0), 2);
        s.due("0 has false cries", x.ranked(2), 0);
        s.of(RANKED, "- `place`: 0 for the first");
        SeekLeague eight = Leagues.withPlayers(8);
        s.due("the first", eight.ranked(0), 0);
        s.due("the last", eight.ranked(7), 7);
        s.of(RANKED, "NO_SUCH if there is no such place.");
        s.due("ranked(-1)", x.ranked(-1), NO_SUCH);
        s.due("ranked(3) of 3", x.ranked(3), NO_SUCH);
        s.due("ranked(8) of 8", eight.ranked(8), NO_SUCH);
        s.due("ranked(0) of 0", new SeekLeague().ranked(0), NO_SUCH);
        s.due("ranked(MIN)", x.ranked(Integer.MIN_VALUE), NO_SUCH);
        s.due("ranked(MAX)", x.ranked(Integer.MAX_VALUE), NO_SUCH);
    }

    private static void nextSeeker(Sentences s) {
        s.of(NEXT, "Returns the next seeker;");
        SeekLeague x = Leagues.withPlayers(3);
        s.due("the last of all", x.nextSeeker(), 2);
        x.start(2, 1);
        s.due("the last of those without a round, in a round", x.nextSeeker(), 1);
        x.hide(1, 1);
        x.seek();
        Leagues.walk(x, 1, 2);
        x.dash(1);
        s.due("the last by points", x.nextSeeker(), 0);
        s.due("of one player", Leagues.withPlayers(1).nextSeeker(), 0);
        s.of(NEXT, "NONE without players.");
        s.due("without players", new SeekLeague().nextSeeker(), NONE);
    }

    private static void totalsOfTheLeague(Sentences s) {
        s.of(TOTAL, "Returns a number of the league.");
        s.of(TOTAL, "Returns the number;");
        SeekLeague x = Leagues.seeking(1, 1, 8);
        s.of(TOTAL, "- `what`: 0 for the players,");
        s.due("players", x.total(0), 4);
        s.due("none", new SeekLeague().total(0), 0);
        s.due("all", Leagues.withPlayers(8).total(0), 8);
        s.of(TOTAL, "1 for the rounds that have ended,");
        s.due("in the first round", x.total(1), 0);
        x.cry(1, 1);
        x.cry(2, 1);
        x.dash(3);
        s.due("after it", x.total(1), 1);
        x.start(1, 1);
        s.due("in the second round", x.total(1), 1);
        x.seek();
        s.due("after a round in which nobody did hide", x.total(1), 2);
        s.of(TOTAL, "8 for the spots that are retired,");
        s.due("open again", x.total(8), 0);
        SeekLeague y = Leagues.seeking(1, 15, 8);
        y.set(1, 1);
        y.cry(1, 1);
        s.due("one", y.total(8), 1);
        y.cry(2, 15);
        s.due("two", y.total(8), 2);
        s.of(TOTAL, "9 for the sum of all points");
        s.due("of the seeker's", y.total(9), 4);
        Leagues.walk(y, -1, 9);
        y.cry(3, 7);
        y.cry(3, 7);
        s.due("and a point of another, two less", y.total(9), 3);
        SeekLeague z = Leagues.seeking(8);
        z.cry(1, 1);
        s.due("negative", z.total(9), -1);
        s.due("without players", new SeekLeague().total(9), 0);
    }

    private static void totalsOfTheRound(Sentences s) {
        SeekLeague none = Leagues.withPlayers(3);
        SeekLeague hiding = Leagues.withPlayers(3);
        hiding.start(0, 5);
        hiding.hide(1, 4);
        SeekLeague seeking = Leagues.seeking(8, 1);
        seeking.walk(-1);
        seeking.cry(1, 0);
        SeekLeague ended = Leagues.seeking(8, 1);
        ended.cry(1, 0);
        ended.cry(1, 0);
        SeekLeague[] all = {none, hiding, seeking, ended};
        s.of(TOTAL, "2 for the part of the round (0 without a round, 1 hiding, 2 seeking),");
        checkTotals(s, 2, all, 0, 1, 2, 0);
        s.of(TOTAL, "3 for the seeker, 4 for the breaths (3 and 4: NONE without a round),");
        checkTotals(s, 3, all, NONE, 0, 0, NONE);
        checkTotals(s, 4, all, NONE, 5, 8, NONE);
        s.of(TOTAL, "5 for the spot where the seeker is (NONE if it is not the time of seeking),");
        checkTotals(s, 5, all, NONE, NONE, 15, NONE);
        s.of(TOTAL, "6 for the false cries of this round (0 without one),");
        checkTotals(s, 6, all, 0, 0, 1, 0);
        s.of(TOTAL, "7 for the players who are hidden,");
        checkTotals(s, 7, all, 0, 1, 2, 0);
    }

    private static void checkTotals(Sentences s, int what, SeekLeague[] leagues, int... due) {
        String[] names = {"without a round", "hiding", "seeking", "after a round"};
        for (int i = 0; i < leagues.length; i++) {
            s.due("total(" + what + ") " + names[i], leagues[i].total(what), due[i]);
        }
    }

    private static void totalRefusals(Sentences s) {
        s.of(TOTAL, "BAD_VALUE if what is out of range.");
        SeekLeague x = Leagues.withPlayers(2);
        s.due("total(-1)", x.total(-1), BAD_VALUE);
        s.due("total(10)", x.total(10), BAD_VALUE);
        s.due("total(MIN)", x.total(Integer.MIN_VALUE), BAD_VALUE);
        s.due("total(MAX)", x.total(Integer.MAX_VALUE), BAD_VALUE);
    }

    private static void inSight(Sentences s) {
        s.of(SIGHT, "Tells the spots at which a hiding player could be found by a cry from where the seeker is.");
        for (int sight = 0; sight <= 3; sight++) {
            for (int hidden = 1; hidden < 16; hidden++) {
                SeekLeague x = Leagues.seeking(hidden, 8);
                x.set(0, sight);
                x.walk(-1);
                boolean isInSight = (x.inSight() >> hidden & 1) == 1;
                s.due("cry(1, " + hidden + ") from 15", x.cry(1, hidden), isInSight ? 1 : NOT_POSSIBLE);
            }
        }
        s.of(SIGHT, "Returns the spots within the sight, the base included, as a bit mask;");
        SeekLeague x = Leagues.seeking(8);
        x.set(0, 0);
        s.due("the base alone", x.inSight(), 1);
        x.set(0, 3);
        s.due("with sight 3 from the base", x.inSight(), 0b1110000000001111);
        Leagues.walk(x, 1, 3);
        s.due("with sight 3 from 3", x.inSight(), 0b0000000001111111);
        x.walk(1);
        s.due("with sight 3 from 4", x.inSight(), 0b0000000011111110);
        s.of(SIGHT, "NOT_POSSIBLE if it is not the time of seeking.");
        checkTime(s, league -> league.inSight(), 2);
    }

    private interface Question {
        int of(SeekLeague league);
    }

    /** The question can be asked in the one part of a round alone. */
    private static void checkTime(Sentences s, Question question, int part) {
        SeekLeague x = Leagues.withPlayers(3);
        s.due("without players", question.of(new SeekLeague()), NOT_POSSIBLE);
        s.due("without a round", question.of(x), NOT_POSSIBLE);
        x.start(0, 8);
        x.hide(1, 8);
        s.due("at hiding", question.of(x) == NOT_POSSIBLE ? 0 : 1, part == 1 ? 1 : 0);
        x.seek();
        s.due("at seeking", question.of(x) == NOT_POSSIBLE ? 0 : 1, part == 2 ? 1 : 0);
        x.dash(1);
        s.due("after the round", question.of(x), NOT_POSSIBLE);
    }

    /** The player 1 seeks, and the player given hides. */
    private static SeekLeague sought(int player, int spot) {
        SeekLeague x = Leagues.withPlayers(3);
        x.start(1, 8);
        x.hide(player, spot);
        x.seek();
        return x;
    }

    private static void couldDash(Sentences s) {
        s.of(COULD, "Tells which hidden players would escape if they dashed now.");
        for (int steps = 0; steps <= 8; steps++) {
            for (int player = 1; player < 8; player++) {
                SeekLeague x = Leagues.seeking(1, 2, 3, 13, 14, 15, 8);
                Leagues.walk(x, -1, steps);
                boolean couldDash = (x.couldDash() >> player & 1) == 1;
                s.due("dash(" + player + ") after " + steps + " steps", x.dash(player), couldDash ? 1 : 0);
            }
        }
        s.of(COULD, "Returns the players, as a bit mask;");
        SeekLeague x = Leagues.seeking(1, 2, 3, 13, 14, 15, NONE);
        s.due("at the base", x.couldDash(), 0);
        x.walk(1);
        s.due("1 from the base", x.couldDash(), 0);
        x.walk(1);
        s.due("2 from the base", x.couldDash(), 0b1000010);
        x.walk(1);
        s.due("3 from the base", x.couldDash(), 0b1100110);
        x.walk(1);
        s.due("4 from the base", x.couldDash(), 0b1111110);
        x.dash(6);
        s.due("without one who has escaped", x.couldDash(), 0b111110);
        SeekLeague y = sought(0, 2);
        Leagues.walk(y, 1, 3);
        s.due("the player 0", y.couldDash(), 1);
        s.of(COULD, "NOT_POSSIBLE if it is not the time of seeking.");
        checkTime(s, league -> league.couldDash(), 2);
    }

    private static void bestSpot(Sentences s) {
        s.of(BEST, "Finds the best place to hide now: of the spots at which somebody could hide, the one with the "
                + "greatest distance from the base,");
        s.of(BEST, "Returns the spot;");
        for (int breaths = 1; breaths <= 8; breaths++) {
            SeekLeague x = Leagues.withPlayers(2);
            x.start(0, breaths);
            s.due("with " + breaths + " breaths", x.bestSpot(), breaths);
        }
        SeekLeague full = Leagues.withPlayers(8);
        full.start(0, 8);
        full.hide(1, 8);
        s.due("one at 8", full.bestSpot(), 8);
        full.hide(2, 8);
        s.due("two at 8", full.bestSpot(), 7);
        SeekLeague retired = Leagues.seeking(8);
        retired.set(1, 1);
        Leagues.walk(retired, 1, 7);
        retired.cry(1, 8);
        retired.start(0, 8);
        s.due("8 is retired", retired.bestSpot(), 7);
        retired.hide(1, 2);
        s.due("all are hidden: what somebody could do is asked of the spot alone", retired.bestSpot(), 7);
        s.of(BEST, "then with the fewest finds,");
        SeekLeague found = Leagues.seeking(1, 8);
        found.cry(1, 1);
        found.dash(2);
        found.start(0, 1);
        s.due("a find at 1", found.bestSpot(), 15);
        found.hide(1, 15);
        s.due("a find at 1, a player at 15", found.bestSpot(), 15);
        SeekLeague other = Leagues.seeking(15, 8);
        other.cry(1, 15);
        other.dash(2);
        other.start(0, 1);
        s.due("a find at 15", other.bestSpot(), 1);
        s.of(BEST, "then with the fewest players who hide there,");
        SeekLeague hidden = Leagues.withPlayers(5);
        hidden.start(0, 2);
        hidden.hide(1, 2);
        s.due("a player at 2", hidden.bestSpot(), 14);
        hidden.undo();
        hidden.hide(1, 14);
        s.due("a player at 14", hidden.bestSpot(), 2);
        hidden.undo();
        hidden.hide(1, 2);
        s.of(BEST, "then with the lowest number.");
        hidden.hide(2, 14);
        s.due("a player at 2 and at 14", hidden.bestSpot(), 2);
    }

    private static void bestSpotRefusals(Sentences s) {
        s.of(BEST, "NOT_POSSIBLE if it is not the time of hiding;");
        checkTime(s, league -> league.bestSpot(), 1);
        s.of(BEST, "NONE if there is none.");
        SeekLeague full = Leagues.withPlayers(6);
        full.start(5, 1);
        full.hide(0, 1);
        full.hide(1, 1);
        full.hide(2, 15);
        s.due("one place", full.bestSpot(), 15);
        full.hide(3, 15);
        s.due("all are full", full.bestSpot(), NONE);
        SeekLeague retired = Leagues.seeking(1, 15);
        retired.set(1, 1);
        retired.cry(1, 1);
        retired.cry(2, 15);
        s.due("no spots", retired.start(0, 1), 0);
        s.due("all are retired", retired.bestSpot(), NONE);
        retired.undo();
        s.due("two spots farther", retired.start(0, 2), 2);
        s.due("the lower one", retired.bestSpot(), 2);
    }

    private static void fewestSteps(Sentences s) {
        s.of(STEPS, "Predicts the fewest steps in which a seeker who knows where all hide could have all of them in "
                + "sight, one after the other, walking from where he is, if nobody dashed.");
        s.of(STEPS, "Returns the number of steps;");
        s.due("all in sight", Leagues.seeking(1, 15).fewestSteps(), 0);
        s.due("a step up", Leagues.seeking(2).fewestSteps(), 1);
        s.due("a step down", Leagues.seeking(14).fewestSteps(), 1);
        s.due("up and down, the shorter way twice", Leagues.seeking(2, 12).fewestSteps(), 5);
        s.due("down and up, the shorter way twice", Leagues.seeking(4, 14).fewestSteps(), 5);
        s.due("around rather than back", Leagues.seeking(5, 8, 11).fewestSteps(), 10);
        SeekLeague x = Leagues.seeking(3, 13);
        x.set(0, 0);
        s.due("with sight 0", x.fewestSteps(), 9);
        x.set(0, 3);
        s.due("with sight 3", x.fewestSteps(), 0);
        x.set(0, 1);
        x.walk(-1);
        s.due("from 15", x.fewestSteps(), 5);
        x.walk(-1);
        s.due("from 14", x.fewestSteps(), 4);
        x.cry(2, 13);
        s.due("without the one who is found", x.fewestSteps(), 4);
        s.due("who did not hide counts not", Leagues.seeking(NONE, 3).fewestSteps(), 2);
        s.due("the player 0", sought(0, 4).fewestSteps(), 3);
        s.of(STEPS, "NOT_POSSIBLE if it is not the time of seeking.");
        checkTime(s, league -> league.fewestSteps(), 2);
    }
}
