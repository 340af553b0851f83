/** "Terms": the return values, the yard, the finds and the rest of spots, the players, the settings. */
final class SentencesOfTheYard {
    private static final int NO_SUCH = SeekLeague.NO_SUCH;
    private static final int BAD_VALUE = SeekLeague.BAD_VALUE;
    private static final int NOT_POSSIBLE = SeekLeague.NOT_POSSIBLE;
    private static final int LIMIT = SeekLeague.LIMIT;
    private static final int NONE = SeekLeague.NONE;
    private static final String TERMS = "Terms";

    private SentencesOfTheYard() {
    }

    static void check(Sentences s) {
        manyCalls(s);
        whatItTells(s);
        theOrderOfTheErrorCodes(s);
        noneIsNoErrorCode(s);
        theCircle(s);
        theBase(s);
        theDistance(s);
        findsAtTheBeginning(s);
        retiredByFinds(s);
        retiredForSoManyRounds(s);
        openAgain(s);
        withoutARest(s);
        settingsAtTheMomentOfAFind(s);
        settingsAtTheEndOfARound(s);
        atMostEightPlayers(s);
        whatAPlayerHas(s);
        theSettings(s);
        theConstants(s);
        theParts(s);
    }

    private static void manyCalls(Sentences s) {
        s.of("What it is", "An object is used for at most 512 calls after it has been made;");
        SeekLeague rounds = Leagues.withPlayers(8);
        for (int round = 0; round < 250; round++) {
            Leagues.playEmptyRound(rounds, 7);
        }
        s.due("rounds by 508 calls", rounds.total(1), 250);
        s.due("rounds as the seeker", rounds.player(7, 1), 250);
        s.due("the call 511", rounds.undo(), 4);
        s.due("the call 512", rounds.total(2), 1);
        SeekLeague cries = Leagues.withPlayers(2);
        cries.set(3, 9);
        for (int round = 0; round < 42; round++) {
            Leagues.playHiding(cries, 8);
            for (int cry = 0; cry < 9; cry++) {
                cries.cry(1, 1);
            }
        }
        s.due("points by 507 calls", cries.player(0, 0), -378);
        s.due("false cries", cries.player(0, 3), 378);
        s.due("escapes", cries.player(1, 4), 42);
        s.due("the sum of all points", cries.total(9), 42 - 378);
        s.due("the call 512", cries.ranked(0), 1);
    }

    private static void whatItTells(Sentences s) {
        s.of(TERMS, "It tells which spots can be reached, who could dash home, and what the best walk would find. "
                + "All numbers are integers. Return values.");
        SeekLeague x = Leagues.withPlayers(3);
        s.due("spots in reach", x.start(0, 3), 6);
        x.hide(1, 1);
        x.hide(2, 13);
        x.seek();
        Leagues.walk(x, 1, 2);
        s.due("who could dash", x.couldDash(), 0b10);
        s.due("the best walk", x.fewestSteps(), 4);
    }

    private static void theOrderOfTheErrorCodes(Sentences s) {
        s.of(TERMS, "Each method lists its error codes in the order in which they are checked; the first one that "
                + "applies is returned.");
        SeekLeague none = new SeekLeague();
        s.due("no such player, no such breaths, too few players", none.start(0, 0), NO_SUCH);
        SeekLeague one = Leagues.withPlayers(1);
        s.due("no such breaths, too few players", one.start(0, 9), BAD_VALUE);
        s.due("no such player, not the time of hiding", one.hide(1, 1), NO_SUCH);
        s.due("no such spot, not the time of hiding", one.hide(0, 16), NO_SUCH);
        s.due("no such way, not the time of seeking", one.walk(2), BAD_VALUE);
        s.due("no such player, not the time of crying", one.cry(1, 0), NO_SUCH);
        s.due("no such spot, not the time of crying", one.cry(0, 16), NO_SUCH);
        s.due("no such player, not the time of dashing", one.dash(1), NO_SUCH);
        s.due("no such player, no such part", one.player(1, 7), NO_SUCH);
        s.due("no such spot, no such part", one.spot(16, 4), NO_SUCH);
        SeekLeague full = Leagues.withPlayers(8);
        full.start(0, 2);
        s.due("in a round, 8 players", full.join(), NOT_POSSIBLE);
        s.due("no such player in a round", full.start(8, 2), NO_SUCH);
        s.due("no such breaths in a round", full.start(1, 0), BAD_VALUE);
        full.hide(1, 2);
        full.hide(2, 2);
        s.due("hidden already, at a full spot", full.hide(1, 2), NOT_POSSIBLE);
        s.due("the seeker, at a full spot", full.hide(0, 2), NOT_POSSIBLE);
        full.seek();
        s.due("not the time of hiding, at a full spot", full.hide(3, 2), NOT_POSSIBLE);
        s.due("no such player at a full spot", full.hide(8, 2), NO_SUCH);
        s.due("the seeker at a spot that isn't", full.cry(0, 16), NO_SUCH);
        Leagues.write(full, "x".repeat(60));
        s.due("no such code, no room", full.append(32), BAD_VALUE);
    }

    private static void noneIsNoErrorCode(Sentences s) {
        s.of(TERMS, "NONE is not an error code; a method returns NONE only if no error code applies.");
        SeekLeague x = Leagues.withPlayers(6);
        s.due("the spot of nobody", x.player(6, 6), NO_SUCH);
        s.due("the spot of one who isn't hidden", x.player(5, 6), NONE);
        s.due("no best spot without a round", x.bestSpot(), NOT_POSSIBLE);
        x.start(0, 1);
        Leagues.write(x, "h1b,h2b,h3p,h4p");
        s.due("a text", x.errorPosition(), NONE);
        x.play();
        s.due("no best spot at hiding", x.bestSpot(), NONE);
        x.seek();
        s.due("no best spot at seeking", x.bestSpot(), NOT_POSSIBLE);
    }

    private static void theCircle(Sentences s) {
        s.of(TERMS, "Yard. There are 16 spots, 0 to 15, in a circle: the spot 0 is beside the spot 15.");
        SeekLeague x = Leagues.seeking(8);
        s.due("the spot -1", x.spot(-1, 0), NO_SUCH);
        s.due("the spot 0", x.spot(0, 0), 0);
        s.due("the spot 15", x.spot(15, 0), 1);
        s.due("the spot 16", x.spot(16, 0), NO_SUCH);
        s.due("below 0", x.walk(-1), 15);
        s.due("above 15", x.walk(1), 0);
        s.due("the spots beside 0", x.inSight(), 1 | 1 << 1 | 1 << 15);
    }

    private static void theBase(Sentences s) {
        s.of(TERMS, "The spot 0 is the base; nobody hides there.");
        SeekLeague x = Leagues.withPlayers(3);
        x.start(1, 8);
        s.due("hide(0, 0)", x.hide(0, 0), NOT_POSSIBLE);
        s.due("hide(1, 0)", x.hide(1, 0), NOT_POSSIBLE);
        s.due("hide(2, 0)", x.hide(2, 0), NOT_POSSIBLE);
        s.due("who hides there", x.spot(0, 3), 0);
        x.undo();
        s.due("the spots to hide are the others", x.start(1, 8), 15);
    }

    private static void theDistance(Sentences s) {
        s.of(TERMS, "The distance of two spots is the smaller number of steps between them (0 to 8).");
        int[] distances = {0, 1, 2, 3, 4, 5, 6, 7, 8, 7, 6, 5, 4, 3, 2, 1};
        SeekLeague x = Leagues.seeking(8);
        for (int spot = 0; spot < 16; spot++) {
            s.due("from the base to " + spot, x.spot(spot, 0), distances[spot]);
        }
        x.set(0, 3);
        for (int at = 1; at <= 16; at++) {
            x.walk(1);
            int mask = 0;
            for (int spot = 0; spot < 16; spot++) {
                mask |= distances[Math.abs(at % 16 - spot)] <= 3 ? 1 << spot : 0;
            }
            s.due("by 3 or less from " + at, x.inSight(), mask);
        }
    }

    private static void findsAtTheBeginning(Sentences s) {
        s.of(TERMS, "Each of the other spots has a count of finds, 0 at the beginning.");
        SeekLeague x = new SeekLeague();
        for (int spot = 1; spot < 16; spot++) {
            s.due("finds at " + spot, x.spot(spot, 1), 0);
        }
        for (int spot = 1; spot < 16; spot++) {
            SeekLeague y = Leagues.seeking(spot, 8);
            Leagues.walk(y, spot < 8 ? 1 : -1, Math.min(spot, 16 - spot));
            y.cry(1, spot);
            s.due("after a find at " + spot, y.spot(spot, 1), 1);
            s.due("beside it", y.spot(spot % 15 + 1, 1), 0);
        }
    }

    private static void retiredByFinds(Sentences s) {
        s.of(TERMS, "When it comes to the setting 1, the spot is retired:");
        for (int enough = 1; enough <= 9; enough++) {
            SeekLeague x = Leagues.withPlayers(3);
            x.set(1, enough);
            x.set(2, 9);
            for (int find = 1; find <= enough; find++) {
                Leagues.playHiding(x, 15, 8);
                s.due("a find", x.cry(1, 15), 1);
                s.due("its count", x.spot(15, 1), find);
                s.due("retired by find " + find + " of " + enough, x.spot(15, 2), find == enough ? 1 : 0);
                s.due("retired spots", x.total(8), find == enough ? 1 : 0);
                x.dash(2);
            }
        }
    }

    /** A league whose spot 1 is retired in the round that goes on; player 2 is hidden still. */
    private static SeekLeague retired(int rest) {
        SeekLeague x = Leagues.withPlayers(3);
        x.set(1, 1);
        x.set(2, rest);
        Leagues.playHiding(x, 1, 8);
        x.cry(1, 1);
        return x;
    }

    private static void retiredForSoManyRounds(Sentences s) {
        s.of(TERMS, "nobody can hide there until so many rounds have ended as the setting 2 tells, the round in which "
                + "it was retired included;");
        for (int rest = 1; rest <= 9; rest++) {
            SeekLeague x = retired(rest);
            x.dash(2);
            for (int ended = 1; ended < rest; ended++) {
                s.due("spots to hide after " + ended + " of " + rest, x.start(0, 8), 14);
                s.due("hide there after " + ended + " of " + rest, x.hide(1, 1), NOT_POSSIBLE);
                x.seek();
            }
            s.due("rounds", x.total(1), rest);
            s.due("spots to hide after all " + rest, x.start(0, 8), 15);
            s.due("hide there after all " + rest, x.hide(1, 1), 1);
        }
    }

    private static void openAgain(Sentences s) {
        s.of(TERMS, "with the end of that round it is open again, and its count of finds is 0.");
        for (int rest = 1; rest <= 9; rest++) {
            SeekLeague x = retired(rest);
            for (int ended = 0; ended < rest; ended++) {
                s.due("retired", x.spot(1, 2), 1);
                s.due("finds", x.spot(1, 1), 1);
                if (ended == 0) {
                    x.dash(2);
                } else {
                    Leagues.playEmptyRound(x, 0);
                }
            }
            s.due("open", x.spot(1, 2), 0);
            s.due("no retired spots", x.total(8), 0);
            s.due("no finds", x.spot(1, 1), 0);
        }
        SeekLeague y = retired(1);
        y.set(3, 1);
        y.cry(1, 1);
        s.due("open by the last false cry too", y.spot(1, 2), 0);
        SeekLeague two = Leagues.seeking(1, 1);
        two.cry(1, 1);
        s.due("one find", two.spot(1, 1), 1);
        two.dash(2);
        s.due("the end of a round keeps the finds of a spot that isn't retired", two.spot(1, 1), 1);
    }

    private static void withoutARest(Sentences s) {
        s.of(TERMS, "With 0 for the setting 2 it stays retired.");
        SeekLeague x = retired(0);
        x.dash(2);
        for (int round = 0; round < 20; round++) {
            Leagues.playEmptyRound(x, 0);
        }
        s.due("retired", x.spot(1, 2), 1);
        s.due("finds", x.spot(1, 1), 1);
        x.start(0, 8);
        s.due("hide there", x.hide(1, 1), NOT_POSSIBLE);
    }

    private static void settingsAtTheMomentOfAFind(Sentences s) {
        s.of(TERMS, "(Settings count as they are at the moment that is asked for: a spot is retired by a find with "
                + "which its count is at least the setting 1,");
        SeekLeague raised = Leagues.seeking(1, 1, 8);
        raised.cry(1, 1);
        raised.set(1, 3);
        raised.cry(2, 1);
        s.due("2 finds of 3", raised.spot(1, 2), 0);
        raised.set(1, 2);
        s.due("a lower setting alone", raised.spot(1, 2), 0);
        raised.dash(3);
        s.due("the end of a round alone", raised.spot(1, 2), 0);
        s.due("somebody could hide there", raised.start(0, 8), 15);
        raised.hide(1, 1);
        raised.hide(2, 8);
        raised.seek();
        raised.set(1, 1);
        raised.cry(1, 1);
        s.due("3 finds, more than enough", raised.spot(1, 2), 1);
        raised.set(1, 9);
        s.due("a greater setting opens nothing", raised.spot(1, 2), 1);
        SeekLeague twice = Leagues.seeking(1, 1, 8);
        twice.set(1, 1);
        twice.cry(1, 1);
        s.due("a find at a retired spot", twice.cry(2, 1), 1);
        s.due("counts", twice.spot(1, 1), 2);
        s.due("one spot is retired", twice.total(8), 1);
    }

    private static void settingsAtTheEndOfARound(Sentences s) {
        s.of(TERMS, "and open by the end of a round with which at least so many have ended as the setting 2 tells, if "
                + "that is not 0.)");
        SeekLeague raised = retired(2);
        raised.dash(2);
        raised.set(2, 4);
        Leagues.playEmptyRound(raised, 0);
        Leagues.playEmptyRound(raised, 0);
        s.due("3 rounds of 4", raised.spot(1, 2), 1);
        Leagues.playEmptyRound(raised, 0);
        s.due("4 rounds of 4", raised.spot(1, 2), 0);
        SeekLeague lowered = retired(9);
        lowered.dash(2);
        Leagues.playEmptyRound(lowered, 0);
        Leagues.playEmptyRound(lowered, 0);
        lowered.set(2, 2);
        s.due("the setting alone opens nothing", lowered.spot(1, 2), 1);
        s.due("nor does the beginning of a round", lowered.start(0, 8), 14);
        lowered.seek();
        s.due("4 rounds, more than 2", lowered.spot(1, 2), 0);
        SeekLeague stopped = retired(2);
        stopped.dash(2);
        stopped.set(2, 0);
        Leagues.playEmptyRound(stopped, 0);
        Leagues.playEmptyRound(stopped, 0);
        s.due("3 rounds, the setting is 0", stopped.spot(1, 2), 1);
        stopped.set(2, 4);
        Leagues.playEmptyRound(stopped, 0);
        s.due("4 rounds of 4, those of the setting 0 too", stopped.spot(1, 2), 0);
    }

    private static void atMostEightPlayers(Sentences s) {
        s.of(TERMS, "Players. There are at most 8 players, numbered from 0 in the order in which they joined; nobody "
                + "leaves.");
        SeekLeague x = new SeekLeague();
        for (int player = 0; player < 8; player++) {
            s.due("no player yet", x.player(player, 0), NO_SUCH);
            s.due("join()", x.join(), player);
            s.due("a player now", x.player(player, 0), 0);
        }
        s.due("the ninth", x.join(), LIMIT);
        s.due("the ninth is no player", x.player(8, 0), NO_SUCH);
        Leagues.playHiding(x, 1, 2, 3);
        x.cry(1, 1);
        x.set(3, 1);
        x.cry(1, 1);
        s.due("after a round", x.total(0), 8);
    }

    private static void whatAPlayerHas(Sentences s) {
        s.of(TERMS, "A player has points (they can be negative), and counts of rounds as the seeker (each one counts "
                + "when it begins), of players found, of false cries, and of escapes.");
        SeekLeague x = Leagues.withPlayers(3);
        x.start(0, 8);
        s.due("rounds as the seeker", x.player(0, 1), 1);
        x.hide(1, 1);
        x.hide(2, 8);
        x.seek();
        s.due("rounds as the seeker", x.player(0, 1), 1);
        x.cry(1, 0);
        s.due("points", x.player(0, 0), -1);
        s.due("the sum of them", x.total(9), -1);
        s.due("a false cry", x.player(0, 3), 1);
        x.cry(1, 1);
        s.due("a player found", x.player(0, 2), 1);
        x.cry(1, 1);
        s.due("an escape", x.player(2, 4), 1);
        s.due("rounds as the seeker", x.player(0, 1), 1);
        s.due("false cries", x.player(0, 3), 2);
    }

    private static void theSettings(Sentences s) {
        String[] names = {"Settings. 0: the sight, 0 to 3, at first 1.", "1: the finds of a spot, 1 to 9, at first 2.",
            "2: the rest, 0 to 9, at first 2.", "3: the false cries of a round, 1 to 9, at first 2."};
        int[] lowest = {0, 1, 0, 1};
        int[] highest = {3, 9, 9, 9};
        int[] first = {1, 2, 2, 2};
        for (int setting = 0; setting < 4; setting++) {
            s.of(TERMS, names[setting]);
            SeekLeague x = new SeekLeague();
            s.due("at first", x.setting(setting), first[setting]);
            s.due("too small", x.set(setting, lowest[setting] - 1), BAD_VALUE);
            s.due("too large", x.set(setting, highest[setting] + 1), BAD_VALUE);
            s.due("the lowest", x.set(setting, lowest[setting]), first[setting]);
            s.due("it is kept", x.setting(setting), lowest[setting]);
            s.due("the highest", x.set(setting, highest[setting]), lowest[setting]);
            s.due("it is kept", x.setting(setting), highest[setting]);
        }
    }

    private static void theConstants(Sentences s) {
        SeekLeague x = new SeekLeague();
        s.of(TERMS, "The constants: `NO_SUCH = -10001`: There is no such player or spot.");
        s.due("NO_SUCH", SeekLeague.NO_SUCH, -10001);
        s.due("no such player", x.player(0, 0), -10001);
        s.due("no such spot", x.spot(16, 0), -10001);
        s.of(TERMS, "`BAD_VALUE = -10002`: Another argument is out of its range.");
        s.due("BAD_VALUE", SeekLeague.BAD_VALUE, -10002);
        s.due("no such setting", x.setting(4), -10002);
        s.of(TERMS, "`NOT_POSSIBLE = -10003`: The call is not possible in the current state.");
        s.due("NOT_POSSIBLE", SeekLeague.NOT_POSSIBLE, -10003);
        s.due("not the time of hiding", x.seek(), -10003);
        s.of(TERMS, "`LIMIT = -10004`: There is no room for another player, hider or character.");
        s.due("LIMIT", SeekLeague.LIMIT, -10004);
        SeekLeague full = Leagues.withPlayers(8);
        s.due("no room for a player", full.join(), -10004);
        full.start(0, 1);
        full.hide(1, 15);
        full.hide(2, 15);
        s.due("no room for a hider", full.hide(3, 15), -10004);
        Leagues.write(full, "+".repeat(60));
        s.due("no room for a character", full.append('+'), -10004);
        s.of(TERMS, "`BAD_TEXT = -10005`: The buffer does not contain a text.");
        s.due("BAD_TEXT", SeekLeague.BAD_TEXT, -10005);
        s.due("not a text", full.play(), -10005);
        s.of(TERMS, "`NONE = -10006`: There is no such result.");
        s.due("NONE", SeekLeague.NONE, -10006);
        s.due("no next seeker", x.nextSeeker(), -10006);
    }

    /** These lines part the interface and promise nothing. */
    private static void theParts(Sentences s) {
        s.of(TERMS, "Ahead of the calls `set`, `setting`, `join` the interface says: ---- settings and players.");
        s.of(TERMS, "Ahead of the calls `start`, `hide`, `seek`, `walk`, `cry`, `dash` the interface says: ---- "
                + "rounds.");
        s.of(TERMS, "Ahead of the calls `player`, `spot`, `ranked`, `nextSeeker`, `total` the interface says: ---- "
                + "what there is.");
        s.of(TERMS, "Ahead of the calls `append`, `clearText`, `errorPosition`, `play` the interface says: ---- "
                + "texts.");
        s.of(TERMS, "Ahead of the calls `undo`, `save`, `restore` the interface says: ---- undo, saved state.");
    }
}
