import java.util.Arrays;

/** "Terms": the two parts of a round, its end, and the ranks. */
final class SentencesOfRounds {
    private static final int BAD_VALUE = SeekLeague.BAD_VALUE;
    private static final int NOT_POSSIBLE = SeekLeague.NOT_POSSIBLE;
    private static final int LIMIT = SeekLeague.LIMIT;
    private static final int NONE = SeekLeague.NONE;
    private static final String TERMS = "Terms";

    private SentencesOfRounds() {
    }

    static void check(Sentences s) {
        theTwoParts(s);
        theBreaths(s);
        whereToHide(s);
        seekingBeginsAtTheBase(s);
        thoseWhoDidNotHide(s);
        walkByOneSpot(s);
        cryAsFarAsTheSight(s);
        aFind(s);
        aFalseCry(s);
        anEscape(s);
        aStoppedDash(s);
        nobodyIsHiddenAnyMore(s);
        theLastFalseCry(s);
        allWhoAreHiddenEscape(s);
        ranksByPoints(s);
        ranksByFalseCries(s);
        ranksByNumbers(s);
        theNextSeeker(s);
    }

    private static void theTwoParts(Sentences s) {
        s.of(TERMS, "A round has two parts. - Hiding.");
        SeekLeague x = Leagues.withPlayers(2);
        s.due("without a round", x.total(2), 0);
        x.start(0, 8);
        s.due("hiding", x.total(2), 1);
        x.hide(1, 8);
        s.due("hiding still", x.total(2), 1);
        x.seek();
        s.due("seeking", x.total(2), 2);
        x.dash(1);
        s.due("after it", x.total(2), 0);
    }

    private static void theBreaths(Sentences s) {
        s.of(TERMS, "The seeker counts breaths, 1 to 8.");
        for (int breaths = 0; breaths <= 9; breaths++) {
            SeekLeague x = Leagues.withPlayers(2);
            boolean isGood = breaths >= 1 && breaths <= 8;
            s.due(breaths + " breaths", x.start(0, breaths), isGood ? Math.min(15, 2 * breaths) : BAD_VALUE);
            s.due("the breaths", x.total(4), isGood ? breaths : NONE);
        }
    }

    private static void whereToHide(Sentences s) {
        s.of(TERMS, "Each other player can hide once at a spot whose distance from the base is at most the number of "
                + "breaths, that is not retired, and at which fewer than 2 players hide.");
        SeekLeague x = Leagues.withPlayers(8);
        x.set(1, 1);
        Leagues.playHiding(x, 4);
        Leagues.walk(x, 1, 3);
        x.cry(1, 4);
        x.start(3, 5);
        s.due("as far as the breaths", x.hide(0, 5), 5);
        s.due("once only", x.hide(0, 1), NOT_POSSIBLE);
        s.due("as far on the other side", x.hide(1, 11), 5);
        s.due("a step too far", x.hide(2, 6), NOT_POSSIBLE);
        s.due("a step too far on the other side", x.hide(2, 10), NOT_POSSIBLE);
        s.due("retired", x.hide(2, 4), NOT_POSSIBLE);
        s.due("the second at a spot", x.hide(2, 5), 5);
        s.due("the seeker", x.hide(3, 3), NOT_POSSIBLE);
        s.due("the third at a spot", x.hide(4, 5), LIMIT);
        s.due("who hides there", x.spot(5, 3), 0b101);
    }

    private static void seekingBeginsAtTheBase(Sentences s) {
        s.of(TERMS, "- Seeking. It begins with the seeker at the base;");
        SeekLeague x = Leagues.seeking(8);
        s.due("the seeker's spot", x.total(5), 0);
        x.walk(1);
        x.dash(1);
        Leagues.playHiding(x, 8);
        s.due("in the next round", x.total(5), 0);
    }

    private static void thoseWhoDidNotHide(Sentences s) {
        s.of(TERMS, "players who did not hide are found at once (this gives no points and counts for nothing).");
        SeekLeague x = Leagues.seeking(8, NONE, NONE);
        s.due("one is hidden", x.total(7), 1);
        s.due("the seeker's points", x.player(0, 0), 0);
        s.due("the seeker's finds", x.player(0, 2), 0);
        for (int player = 2; player < 4; player++) {
            s.due("not hidden", x.player(player, 6), NONE);
            s.due("no points", x.player(player, 0), 0);
            s.due("no escape", x.player(player, 4), 0);
            s.due("found already", x.dash(player), NOT_POSSIBLE);
        }
        for (int spot = 0; spot < 16; spot++) {
            s.due("finds at " + spot, x.spot(spot, 1), 0);
        }
        x.dash(1);
        s.due("the round ends without them", x.total(2), 0);
    }

    private static void walkByOneSpot(Sentences s) {
        s.of(TERMS, "The seeker can walk by one spot.");
        SeekLeague x = Leagues.seeking(8);
        s.due("up", x.walk(1), 1);
        s.due("up", x.walk(1), 2);
        s.due("down", x.walk(-1), 1);
        s.due("by two", x.walk(2), BAD_VALUE);
        s.due("the seeker's spot", x.total(5), 1);
    }

    private static void cryAsFarAsTheSight(Sentences s) {
        s.of(TERMS, "He can cry the name of a player and a spot whose distance from him is at most the sight:");
        for (int sight = 0; sight <= 3; sight++) {
            SeekLeague x = Leagues.seeking(8);
            x.set(0, sight);
            x.set(3, 9);
            s.due("as far as the sight " + sight, x.cry(1, sight), 0);
            s.due("as far down", x.cry(1, 16 - sight & 15), 0);
            s.due("a step farther than " + sight, x.cry(1, sight + 1), NOT_POSSIBLE);
            s.due("a step farther down", x.cry(1, 15 - sight), NOT_POSSIBLE);
            Leagues.walk(x, -1, 2);
            s.due("across the base, with " + sight, x.cry(1, 0), sight < 2 ? NOT_POSSIBLE : 0);
            s.due("across the base, with " + sight, x.cry(1, 1), sight < 3 ? NOT_POSSIBLE : 0);
        }
    }

    private static void aFind(Sentences s) {
        s.of(TERMS, "if this player hides there, the player is found: the seeker gets 2 points, and the find counts "
                + "for him and for the spot;");
        SeekLeague x = Leagues.seeking(1, 1, 15);
        s.due("cry(2, 1)", x.cry(2, 1), 1);
        s.due("the seeker's points", x.player(0, 0), 2);
        s.due("the seeker's finds", x.player(0, 2), 1);
        s.due("the spot's finds", x.spot(1, 1), 1);
        s.due("found", x.player(2, 6), NONE);
        s.due("the one beside him is hidden still", x.player(1, 6), 1);
        s.due("the points of the one found", x.player(2, 0), 0);
        s.due("no false cry", x.player(0, 3) + x.total(6), 0);
        s.due("cry(3, 15)", x.cry(3, 15), 1);
        s.due("the seeker's points", x.player(0, 0), 4);
        s.due("the seeker's finds", x.player(0, 2), 2);
        s.due("the spot's finds", x.spot(15, 1), 1);
    }

    private static void aFalseCry(Sentences s) {
        s.of(TERMS, "otherwise it is a false cry: the seeker loses 1 point.");
        SeekLeague x = Leagues.seeking(1, 15, NONE);
        x.set(3, 9);
        s.due("he hides elsewhere", x.cry(1, 15), 0);
        s.due("points", x.player(0, 0), -1);
        s.due("nobody hides there", x.cry(1, 0), 0);
        s.due("points", x.player(0, 0), -2);
        s.due("he did not hide", x.cry(3, 1), 0);
        s.due("points", x.player(0, 0), -3);
        x.cry(1, 1);
        s.due("he is found already", x.cry(1, 1), 0);
        s.due("points", x.player(0, 0), -2);
        s.due("false cries", x.player(0, 3), 4);
        s.due("false cries of the round", x.total(6), 4);
        s.due("finds of the spot", x.spot(1, 1), 1);
        s.due("the other is hidden still", x.player(2, 6), 15);
        s.due("the other's points", x.player(1, 0) + x.player(2, 0), 0);
    }

    private static void anEscape(Sentences s) {
        s.of(TERMS, "A hidden player can dash: if the player's distance from the base is less than that of the seeker, "
                + "the player escapes and gets 3 points;");
        SeekLeague x = Leagues.seeking(3, 13, 4);
        Leagues.walk(x, -1, 4);
        s.due("on the other side", x.dash(1), 1);
        s.due("on the seeker's side", x.dash(2), 1);
        for (int player = 1; player < 3; player++) {
            s.due("points", x.player(player, 0), 3);
            s.due("escapes", x.player(player, 4), 1);
            s.due("no longer hidden", x.player(player, 6), NONE);
        }
        s.due("the seeker's points", x.player(0, 0), 0);
        s.due("the seeker's finds", x.player(0, 2), 0);
        s.due("again", x.dash(1), NOT_POSSIBLE);
    }

    private static void aStoppedDash(Sentences s) {
        s.of(TERMS, "otherwise the player is found, and the seeker gets 1 point (and the find counts for him, but not "
                + "for the spot).");
        SeekLeague x = Leagues.seeking(4, 12, 5, 8);
        x.set(1, 1);
        Leagues.walk(x, 1, 4);
        int[] spots = {4, 12, 5};
        for (int player = 1; player <= 3; player++) {
            s.due("as far as the seeker, or farther", x.dash(player), 0);
            s.due("the seeker's points", x.player(0, 0), player);
            s.due("the seeker's finds", x.player(0, 2), player);
            s.due("the spot's finds", x.spot(spots[player - 1], 1), 0);
            s.due("retired", x.spot(spots[player - 1], 2), 0);
            s.due("found", x.player(player, 6), NONE);
            s.due("no points", x.player(player, 0), 0);
            s.due("no escape", x.player(player, 4), 0);
        }
    }

    private static void nobodyIsHiddenAnyMore(Sentences s) {
        s.of(TERMS, "The round ends when nobody is hidden any more,");
        SeekLeague x = Leagues.seeking(1, 15);
        x.cry(1, 1);
        s.due("one is hidden", x.total(2), 2);
        x.cry(2, 15);
        s.due("by a find", x.total(2), 0);
        s.due("rounds", x.total(1), 1);
        Leagues.playHiding(x, 1, 15);
        x.dash(2);
        s.due("one is hidden", x.total(2), 2);
        x.dash(1);
        s.due("by a stopped dash", x.total(2), 0);
        s.due("rounds", x.total(1), 2);
        Leagues.playHiding(x, 1);
        Leagues.walk(x, 1, 2);
        x.dash(1);
        s.due("by an escape", x.total(2), 0);
        s.due("rounds", x.total(1), 3);
        Leagues.playHiding(x);
        s.due("nobody did hide", x.total(2), 0);
        s.due("rounds", x.total(1), 4);
        s.due("the next round", x.start(1, 1), 2);
    }

    private static void theLastFalseCry(Sentences s) {
        s.of(TERMS, "or with the false cry that is the last one which the setting 3 allows (that is, when there are at "
                + "least so many false cries in this round):");
        for (int allowed = 1; allowed <= 9; allowed++) {
            SeekLeague x = Leagues.seeking(8);
            x.set(3, allowed);
            for (int cry = 1; cry <= allowed; cry++) {
                s.due("the round goes on", x.total(2), 2);
                s.due("false cries", x.total(6), cry - 1);
                s.due("a false cry", x.cry(1, 1), 0);
            }
            s.due("ended by the last of " + allowed, x.total(2), 0);
            s.due("rounds", x.total(1), 1);
            s.due("all false cries count", x.player(0, 3), allowed);
        }
        SeekLeague lowered = Leagues.seeking(8);
        lowered.set(3, 9);
        lowered.cry(1, 1);
        lowered.cry(1, 1);
        lowered.cry(1, 1);
        lowered.set(3, 2);
        s.due("the setting alone ends nothing", lowered.total(2), 2);
        lowered.cry(1, 1);
        s.due("the fourth of 2 ends it", lowered.total(2), 0);
        SeekLeague next = Leagues.seeking(8);
        next.cry(1, 1);
        next.dash(1);
        Leagues.playHiding(next, 8);
        next.cry(1, 1);
        s.due("those of an earlier round don't count", next.total(2), 2);
    }

    private static void allWhoAreHiddenEscape(Sentences s) {
        s.of(TERMS, "then all who are hidden escape, and get 1 point each.");
        SeekLeague x = Leagues.seeking(1, 8, 8, NONE, 5);
        x.cry(1, 1);
        x.cry(1, 1);
        x.cry(1, 1);
        int[] points = {0, 0, 1, 1, 0, 1};
        for (int player = 0; player < points.length; player++) {
            s.due("points of " + player, x.player(player, 0), points[player]);
            s.due("escapes of " + player, x.player(player, 4), points[player]);
            s.due("the spot of " + player, x.player(player, 6), NONE);
        }
        s.due("nobody is hidden", x.total(7), 0);
        s.due("nobody hides at 8", x.spot(8, 3), 0);
        s.due("no find of the seeker by it", x.player(0, 2), 1);
        SeekLeague y = Leagues.withPlayers(2);
        y.start(1, 8);
        y.hide(0, 8);
        y.seek();
        y.cry(0, 1);
        y.cry(0, 1);
        s.due("points of the player 0", y.player(0, 0), 1);
        s.due("escapes of the player 0", y.player(0, 4), 1);
    }

    private static void checkOrder(Sentences s, SeekLeague x, int... players) {
        for (int place = 0; place < players.length; place++) {
            s.due("ranked(" + place + ")", x.ranked(place), players[place]);
            s.due("the place of " + players[place], x.player(players[place], 5), place);
        }
    }

    private static void ranksByPoints(Sentences s) {
        s.of(TERMS, "Ranks. Players are ranked by points, the greater ones first;");
        SeekLeague x = Leagues.seeking(2, 1, 3);
        Leagues.walk(x, 1, 2);
        x.cry(1, 2);
        x.dash(2);
        checkOrder(s, x, 2, 0, 1, 3);
        x.cry(3, 3);
        checkOrder(s, x, 0, 2, 1, 3);
        SeekLeague below = Leagues.seeking(8);
        below.cry(1, 1);
        checkOrder(s, below, 1, 0);
    }

    /** A false cry and a stopped dash: the seeker has no more points, but a false cry more. */
    private static void playForNothing(SeekLeague x, int seeker, int hiding) {
        x.start(seeker, 8);
        x.hide(hiding, 1);
        x.seek();
        x.cry(hiding, 0);
        x.dash(hiding);
    }

    private static void ranksByFalseCries(Sentences s) {
        s.of(TERMS, "with the same points by false cries, the fewer ones first;");
        SeekLeague x = Leagues.withPlayers(4);
        playForNothing(x, 0, 1);
        s.due("the points", x.player(0, 0), 0);
        checkOrder(s, x, 1, 2, 3, 0);
        playForNothing(x, 1, 0);
        playForNothing(x, 1, 0);
        checkOrder(s, x, 2, 3, 0, 1);
        playForNothing(x, 2, 0);
        checkOrder(s, x, 3, 0, 2, 1);
    }

    private static void ranksByNumbers(Sentences s) {
        s.of(TERMS, "then by their numbers, the lower ones first.");
        for (int players = 1; players <= 8; players++) {
            SeekLeague x = Leagues.withPlayers(players);
            checkOrder(s, x, Arrays.copyOf(new int[] {0, 1, 2, 3, 4, 5, 6, 7}, players));
        }
    }

    private static void theNextSeeker(Sentences s) {
        s.of(TERMS, "The next seeker is the one with the fewest rounds as the seeker; of several the one who is ranked "
                + "last.");
        SeekLeague x = Leagues.withPlayers(4);
        s.due("all have 0: the last by number", x.nextSeeker(), 3);
        x.start(0, 8);
        s.due("0 has one", x.nextSeeker(), 3);
        x.undo();
        playForNothing(x, 3, 0);
        s.due("3 has one", x.nextSeeker(), 2);
        Leagues.playEmptyRound(x, 2);
        Leagues.playEmptyRound(x, 1);
        s.due("only 0 has none", x.nextSeeker(), 0);
        Leagues.playEmptyRound(x, 0);
        s.due("all have one: 3 has a false cry", x.nextSeeker(), 3);
        x.start(1, 8);
        x.hide(3, 1);
        x.seek();
        Leagues.walk(x, 1, 2);
        x.dash(3);
        s.due("3 has the most points, 1 a round more", x.nextSeeker(), 2);
        s.due("1 is not ranked last", x.ranked(3), 2);
    }
}
