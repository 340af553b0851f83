/** Promises 1 to 10: a new object, the settings, the players, the calls of a round. */
final class SentencesOfPlayersAndRounds {
    private static final int NO_SUCH = SeekLeague.NO_SUCH;
    private static final int BAD_VALUE = SeekLeague.BAD_VALUE;
    private static final int NOT_POSSIBLE = SeekLeague.NOT_POSSIBLE;
    private static final int LIMIT = SeekLeague.LIMIT;
    private static final int NONE = SeekLeague.NONE;
    private static final String NEW = "Promise 1: A new object";
    private static final String SET = "Promise 2: set";
    private static final String SETTING = "Promise 3: setting";
    private static final String JOIN = "Promise 4: join";
    private static final String START = "Promise 5: start";
    private static final String HIDE = "Promise 6: hide";
    private static final String SEEK = "Promise 7: seek";
    private static final String WALK = "Promise 8: walk";
    private static final String CRY = "Promise 9: cry";
    private static final String DASH = "Promise 10: dash";
    private static final int[] LOWEST = {0, 1, 0, 1};
    private static final int[] HIGHEST = {3, 9, 9, 9};

    private SentencesOfPlayersAndRounds() {
    }

    static void check(Sentences s) {
        aNewObject(s);
        set(s);
        setRefusals(s);
        setting(s);
        join(s);
        joinRefusals(s);
        start(s);
        startRefusals(s);
        hide(s);
        hideArguments(s);
        hideRefusals(s);
        hideAtAFullSpot(s);
        seek(s);
        walk(s);
        walkRefusals(s);
        cry(s);
        cryArguments(s);
        cryRefusals(s);
        dash(s);
        dashRefusals(s);
    }

    /** Checks that undo() takes the latest call back. */
    private static void undone(Sentences s, SeekLeague x, int recordedAhead, SeekLeague before) {
        s.due("undo()", x.undo(), Math.min(4, recordedAhead));
        s.holds("as ahead of it", Leagues.describe(x).equals(Leagues.describe(before)));
    }

    private static void aNewObject(Sentences s) {
        s.of(NEW, "Creates a league without players.");
        SeekLeague x = new SeekLeague();
        s.due("player 0", x.player(0, 0), NO_SUCH);
        s.due("the first in the ranks", x.ranked(0), NO_SUCH);
        int[] totals = {0, 0, 0, NONE, NONE, NONE, 0, 0, 0, 0};
        for (int what = 0; what < totals.length; what++) {
            s.due("total(" + what + ")", x.total(what), totals[what]);
        }
        for (int spot = 0; spot < 16; spot++) {
            s.due("finds, retired, hiders of " + spot, x.spot(spot, 1) | x.spot(spot, 2) | x.spot(spot, 3), 0);
        }
        SeekLeague busy = Leagues.seeking(1, 2);
        busy.set(1, 1);
        busy.cry(1, 1);
        busy.append('b');
        busy.save();
        s.holds("one league does not change another",
                Leagues.describe(x).equals(Leagues.describe(new SeekLeague())));
        Leagues.write(new SeekLeague(), "x");
        s.due("nor its buffer", busy.errorPosition(), NONE);
        s.due("an empty buffer", new SeekLeague().clearText(), 0);
        s.due("no recorded state", new SeekLeague().undo(), NOT_POSSIBLE);
        s.due("no saved state", new SeekLeague().restore(), NOT_POSSIBLE);
    }

    private static void set(Sentences s) {
        s.of(SET, "Changes a setting.");
        for (int setting = 0; setting < 4; setting++) {
            SeekLeague x = new SeekLeague();
            x.set(setting, 3);
            s.due("setting " + setting, x.setting(setting), 3);
            s.due("the others", x.setting(0) + x.setting(1) + x.setting(2) + x.setting(3), setting == 0 ? 9 : 8);
        }
        s.of(SET, "Undoable.");
        SeekLeague x = new SeekLeague();
        x.set(3, 9);
        undone(s, x, 0, new SeekLeague());
        x.set(3, 2);
        undone(s, x, 0, new SeekLeague());
        s.of(SET, "Returns the previous value;");
        s.due("the first value", x.set(1, 7), 2);
        s.due("the value set before", x.set(1, 9), 7);
        s.due("the same value", x.set(1, 9), 9);
    }

    private static void setRefusals(Sentences s) {
        s.of(SET, "- `setting`: 0 to 3");
        SeekLeague x = new SeekLeague();
        s.due("set(0, 2)", x.set(0, 2), 1);
        s.due("set(3, 3)", x.set(3, 3), 2);
        s.of(SET, "- `value`: the new value");
        s.due("setting(0)", x.setting(0), 2);
        s.due("setting(3)", x.setting(3), 3);
        s.of(SET, "BAD_VALUE if there is no such setting,");
        s.due("set(-1, 1)", x.set(-1, 1), BAD_VALUE);
        s.due("set(4, 1)", x.set(4, 1), BAD_VALUE);
        s.due("set(MIN, 1)", x.set(Integer.MIN_VALUE, 1), BAD_VALUE);
        s.due("set(MAX, 1)", x.set(Integer.MAX_VALUE, 1), BAD_VALUE);
        s.of(SET, "or if value is out of its range.");
        for (int setting = 0; setting < 4; setting++) {
            s.due("too small", x.set(setting, LOWEST[setting] - 1), BAD_VALUE);
            s.due("too large", x.set(setting, HIGHEST[setting] + 1), BAD_VALUE);
            s.due("the least int", x.set(setting, Integer.MIN_VALUE), BAD_VALUE);
            s.due("the greatest int", x.set(setting, Integer.MAX_VALUE), BAD_VALUE);
            s.holds("a lowest value", x.set(setting, LOWEST[setting]) >= 0);
            s.due("a highest value", x.set(setting, HIGHEST[setting]), LOWEST[setting]);
        }
    }

    private static void setting(Sentences s) {
        s.of(SETTING, "Returns a setting.");
        SeekLeague x = new SeekLeague();
        x.set(2, 0);
        s.due("the lowest value", x.setting(2), 0);
        s.of(SETTING, "- `setting`: 0 to 3");
        int[] first = {1, 2, 0, 2};
        for (int setting = 0; setting < 4; setting++) {
            s.due("setting(" + setting + ")", x.setting(setting), first[setting]);
        }
        s.of(SETTING, "Returns the value;");
        x.set(0, 3);
        s.due("setting(0)", x.setting(0), 3);
        s.due("setting(0) again", x.setting(0), 3);
        s.of(SETTING, "BAD_VALUE if there is no such setting.");
        s.due("setting(-1)", x.setting(-1), BAD_VALUE);
        s.due("setting(4)", x.setting(4), BAD_VALUE);
        s.due("setting(MIN)", x.setting(Integer.MIN_VALUE), BAD_VALUE);
        s.due("setting(MAX)", x.setting(Integer.MAX_VALUE), BAD_VALUE);
    }

    private static void join(Sentences s) {
        s.of(JOIN, "Lets a player join.");
        SeekLeague x = new SeekLeague();
        x.join();
        s.due("players", x.total(0), 1);
        for (int part = 0; part < 6; part++) {
            s.due("player(0, " + part + ")", x.player(0, part), 0);
        }
        s.of(JOIN, "Undoable.");
        undone(s, x, 0, new SeekLeague());
        s.of(JOIN, "Returns the number of the player;");
        for (int player = 0; player < 8; player++) {
            s.due("join()", x.join(), player);
        }
        x.undo();
        s.due("after an undo the same number", x.join(), 7);
    }

    private static void joinRefusals(Sentences s) {
        s.of(JOIN, "NOT_POSSIBLE in a round;");
        SeekLeague x = Leagues.withPlayers(2);
        x.start(0, 1);
        s.due("at hiding", x.join(), NOT_POSSIBLE);
        x.hide(1, 1);
        x.seek();
        s.due("at seeking", x.join(), NOT_POSSIBLE);
        x.dash(1);
        s.due("after the round", x.join(), 2);
        s.of(JOIN, "LIMIT if there are 8 players.");
        SeekLeague seven = Leagues.withPlayers(7);
        s.due("the eighth", seven.join(), 7);
        s.due("the ninth", seven.join(), LIMIT);
        s.due("the ninth again", seven.join(), LIMIT);
        s.due("players", seven.total(0), 8);
    }

    private static void start(Sentences s) {
        s.of(START, "Begins a round with the hiding.");
        SeekLeague x = Leagues.withPlayers(2);
        x.start(1, 5);
        s.due("hiding", x.total(2), 1);
        s.due("the seeker", x.total(3), 1);
        s.due("the breaths", x.total(4), 5);
        s.due("nobody is hidden", x.total(7), 0);
        s.of(START, "Undoable.");
        undone(s, x, 2, Leagues.withPlayers(2));
        s.of(START, "- `seeker`: number of a player");
        s.due("start(0, 8)", x.start(0, 8), 15);
        x.undo();
        s.due("start(1, 8)", x.start(1, 8), 15);
        x.undo();
        s.of(START, "- `breaths`: 1 to 8");
        s.due("start(0, 1)", x.start(0, 1), 2);
        x.undo();
        s.due("start(0, 8)", x.start(0, 8), 15);
        s.of(START, "Returns the number of spots at which somebody could hide;");
        for (int breaths = 1; breaths <= 8; breaths++) {
            SeekLeague y = Leagues.withPlayers(3);
            s.due("start(2, " + breaths + ")", y.start(2, breaths), breaths == 8 ? 15 : 2 * breaths);
            y.seek();
            y.set(1, 1);
            Leagues.playHiding(y, 1, 15);
            y.cry(1, 1);
            y.cry(2, 15);
            s.due("without two retired ones", y.start(2, breaths), breaths == 8 ? 13 : 2 * breaths - 2);
        }
    }

    private static void startRefusals(Sentences s) {
        s.of(START, "NO_SUCH if there is no such player;");
        SeekLeague x = Leagues.withPlayers(2);
        s.due("start(-1, 1)", x.start(-1, 1), NO_SUCH);
        s.due("start(2, 1)", x.start(2, 1), NO_SUCH);
        s.due("start(MIN, 1)", x.start(Integer.MIN_VALUE, 1), NO_SUCH);
        s.due("start(MAX, 1)", x.start(Integer.MAX_VALUE, 1), NO_SUCH);
        s.of(START, "BAD_VALUE if breaths is out of range;");
        s.due("start(0, 0)", x.start(0, 0), BAD_VALUE);
        s.due("start(0, 9)", x.start(0, 9), BAD_VALUE);
        s.due("start(0, -1)", x.start(0, -1), BAD_VALUE);
        s.due("start(0, MAX)", x.start(0, Integer.MAX_VALUE), BAD_VALUE);
        s.of(START, "NOT_POSSIBLE in a round,");
        x.start(0, 1);
        s.due("at hiding", x.start(1, 1), NOT_POSSIBLE);
        x.hide(1, 1);
        x.seek();
        s.due("at seeking", x.start(1, 1), NOT_POSSIBLE);
        s.due("the seeker is the same", x.total(3), 0);
        s.due("no round as the seeker", x.player(1, 1), 0);
        x.dash(1);
        s.due("after the round", x.start(1, 1), 2);
        s.of(START, "or with fewer than 2 players.");
        SeekLeague one = Leagues.withPlayers(1);
        s.due("with 1 player", one.start(0, 1), NOT_POSSIBLE);
        one.join();
        s.due("with 2 players", one.start(0, 1), 2);
    }

    private static void hide(Sentences s) {
        s.of(HIDE, "Lets a player hide.");
        SeekLeague x = hiding(3, 8);
        x.hide(1, 9);
        s.due("the spot of 1", x.player(1, 6), 9);
        s.due("the players at 9", x.spot(9, 3), 0b10);
        s.due("the hidden", x.total(7), 1);
        s.of(HIDE, "Undoable.");
        undone(s, x, 4, hiding(3, 8));
        s.of(HIDE, "Returns the distance from the base;");
        int[] distances = {0, 1, 2, 3, 4, 5, 6, 7, 8, 7, 6, 5, 4, 3, 2, 1};
        for (int spot = 1; spot < 16; spot++) {
            s.due("hide(1, " + spot + ")", hiding(2, 8).hide(1, spot), distances[spot]);
        }
    }

    private static SeekLeague hiding(int players, int breaths) {
        SeekLeague x = Leagues.withPlayers(players);
        x.start(0, breaths);
        return x;
    }

    private static void hideArguments(Sentences s) {
        s.of(HIDE, "- `player`: number of a player");
        SeekLeague x = hiding(8, 8);
        s.due("the second", x.hide(1, 3), 3);
        s.due("the last", x.hide(7, 3), 3);
        SeekLeague y = Leagues.withPlayers(2);
        y.start(1, 8);
        s.due("the first", y.hide(0, 3), 3);
        s.of(HIDE, "- `spot`: 0 to 15");
        s.due("the spot 1", x.hide(2, 1), 1);
        s.due("the spot 15", x.hide(3, 15), 1);
        s.of(HIDE, "NO_SUCH if there is no such player or spot;");
        s.due("hide(-1, 1)", x.hide(-1, 1), NO_SUCH);
        s.due("hide(8, 1)", x.hide(8, 1), NO_SUCH);
        s.due("hide(MAX, 1)", x.hide(Integer.MAX_VALUE, 1), NO_SUCH);
        s.due("hide(4, -1)", x.hide(4, -1), NO_SUCH);
        s.due("hide(4, 16)", x.hide(4, 16), NO_SUCH);
        s.due("hide(4, MIN)", x.hide(4, Integer.MIN_VALUE), NO_SUCH);
        s.due("the player hides not", x.player(4, 6), NONE);
    }

    private static void hideRefusals(Sentences s) {
        s.of(HIDE, "NOT_POSSIBLE if it is not the time of hiding,");
        SeekLeague x = Leagues.withPlayers(3);
        s.due("without a round", x.hide(1, 1), NOT_POSSIBLE);
        x.start(0, 3);
        x.hide(1, 1);
        x.seek();
        s.due("at seeking", x.hide(2, 1), NOT_POSSIBLE);
        x.cry(1, 1);
        s.due("after the round", x.hide(2, 1), NOT_POSSIBLE);
        s.of(HIDE, "if the player is the seeker");
        x.start(2, 3);
        s.due("the seeker", x.hide(2, 1), NOT_POSSIBLE);
        s.due("the seeker of the round before", x.hide(0, 1), 1);
        s.of(HIDE, "or is hidden already,");
        s.due("at the same spot", x.hide(0, 1), NOT_POSSIBLE);
        s.due("at another spot", x.hide(0, 2), NOT_POSSIBLE);
        s.due("the spot", x.player(0, 6), 1);
        s.of(HIDE, "if the spot is the base,");
        s.due("the base", x.hide(1, 0), NOT_POSSIBLE);
        s.of(HIDE, "too far");
        s.due("4 with 3 breaths", x.hide(1, 4), NOT_POSSIBLE);
        s.due("12 with 3 breaths", x.hide(1, 12), NOT_POSSIBLE);
        s.due("13 with 3 breaths", x.hide(1, 13), 3);
        s.of(HIDE, "or retired;");
        SeekLeague y = Leagues.seeking(15);
        y.set(1, 1);
        y.cry(1, 15);
        y.start(0, 1);
        s.due("a retired spot", y.hide(1, 15), NOT_POSSIBLE);
        s.due("an open one", y.hide(1, 1), 1);
    }

    private static void hideAtAFullSpot(Sentences s) {
        s.of(HIDE, "LIMIT if 2 players hide there.");
        SeekLeague x = hiding(6, 8);
        s.due("the first", x.hide(1, 8), 8);
        s.due("the second", x.hide(2, 8), 8);
        s.due("the third", x.hide(3, 8), LIMIT);
        s.due("the third is not hidden", x.player(3, 6), NONE);
        s.due("beside it", x.hide(3, 9), 7);
        s.due("a fourth", x.hide(4, 8), LIMIT);
        x.undo();
        x.undo();
        s.due("when one is gone", x.hide(4, 8), 8);
    }

    private static void seek(Sentences s) {
        s.of(SEEK, "Begins to seek.");
        SeekLeague x = hiding(4, 8);
        x.hide(1, 8);
        s.of(SEEK, "Returns the number of players who are hidden;");
        s.due("one", x.seek(), 1);
        s.due("seeking", x.total(2), 2);
        s.due("hidden", x.total(7), 1);
        x.undo();
        x.hide(2, 8);
        x.hide(3, 1);
        s.due("three", x.seek(), 3);
        s.of(SEEK, "If nobody is hidden, the round ends at once.");
        SeekLeague y = hiding(4, 8);
        s.due("none", y.seek(), 0);
        s.due("no round", y.total(2), 0);
        s.due("it has ended", y.total(1), 1);
        s.due("no seeker", y.total(3), NONE);
        s.due("no breaths", y.total(4), NONE);
        s.due("no spot of the seeker", y.total(5), NONE);
        s.of(SEEK, "Undoable.");
        undone(s, y, 5, hiding(4, 8));
        s.of(SEEK, "NOT_POSSIBLE if it is not the time of hiding.");
        s.due("at seeking", x.seek(), NOT_POSSIBLE);
        s.due("without a round", Leagues.withPlayers(2).seek(), NOT_POSSIBLE);
        s.due("without players", new SeekLeague().seek(), NOT_POSSIBLE);
    }

    private static void walk(Sentences s) {
        s.of(WALK, "Lets the seeker walk.");
        SeekLeague x = Leagues.seeking(8);
        x.walk(1);
        s.due("the seeker's spot", x.total(5), 1);
        s.of(WALK, "Undoable.");
        undone(s, x, 5, Leagues.seeking(8));
        x.walk(0);
        undone(s, x, 4, Leagues.seeking(8));
        s.of(WALK, "- `way`: 1 to the next spot with a higher number, -1 to that with a lower number (around the "
                + "circle), 0 to stay");
        s.due("from 0 to a lower one", x.walk(-1), 15);
        s.due("from 15 to a lower one", x.walk(-1), 14);
        s.due("from 14 to a higher one", x.walk(1), 15);
        s.due("from 15 to a higher one", x.walk(1), 0);
        s.due("stay at 0", x.walk(0), 0);
        s.of(WALK, "Returns the spot where the seeker is then;");
        for (int step = 1; step <= 20; step++) {
            s.due("step " + step, x.walk(1), step % 16);
            s.due("to stay", x.walk(0), step % 16);
            s.due("total(5)", x.total(5), step % 16);
        }
    }

    private static void walkRefusals(Sentences s) {
        s.of(WALK, "BAD_VALUE if way is not -1, 0 or 1;");
        SeekLeague x = Leagues.seeking(8);
        int[] ways = {-2, 2, 15, -15, 16, 17, Integer.MIN_VALUE, Integer.MAX_VALUE};
        for (int way : ways) {
            s.due("walk(" + way + ")", x.walk(way), BAD_VALUE);
        }
        s.due("the seeker stays", x.total(5), 0);
        s.of(WALK, "NOT_POSSIBLE if it is not the time of seeking.");
        x.dash(1);
        s.due("after the round", x.walk(1), NOT_POSSIBLE);
        s.due("to stay, after the round", x.walk(0), NOT_POSSIBLE);
        s.due("at hiding", hiding(2, 8).walk(1), NOT_POSSIBLE);
        s.due("without players", new SeekLeague().walk(-1), NOT_POSSIBLE);
    }

    private static void cry(Sentences s) {
        s.of(CRY, "Lets the seeker cry.");
        s.of(CRY, "Returns 1 if the player is found, 0 if it is a false cry;");
        SeekLeague x = Leagues.seeking(1, 15);
        s.due("he hides there", x.cry(1, 1), 1);
        s.due("he hides elsewhere", x.cry(2, 1), 0);
        s.due("he is found already", x.cry(1, 1), 0);
        s.due("the round has ended", x.total(2), 0);
        s.of(CRY, "Undoable.");
        SeekLeague find = Leagues.seeking(1, 8);
        find.cry(1, 1);
        undone(s, find, 5, Leagues.seeking(1, 8));
        find.cry(2, 1);
        undone(s, find, 4, Leagues.seeking(1, 8));
        SeekLeague last = Leagues.seeking(1);
        last.cry(1, 1);
        undone(s, last, 5, Leagues.seeking(1));
    }

    private static void cryArguments(Sentences s) {
        s.of(CRY, "- `player`: number of a player");
        SeekLeague x = Leagues.seeking(15, 8, 8, 4, 4, 5, 1);
        s.due("the last", x.cry(7, 1), 1);
        s.of(CRY, "- `spot`: 0 to 15");
        s.due("the spot 15", x.cry(1, 15), 1);
        s.due("the base", x.cry(2, 0), 0);
        s.of(CRY, "NO_SUCH if there is no such player or spot;");
        s.due("cry(-1, 1)", x.cry(-1, 1), NO_SUCH);
        s.due("cry(8, 1)", x.cry(8, 1), NO_SUCH);
        s.due("cry(MAX, 1)", x.cry(Integer.MAX_VALUE, 1), NO_SUCH);
        s.due("cry(2, -1)", x.cry(2, -1), NO_SUCH);
        s.due("cry(2, 16)", x.cry(2, 16), NO_SUCH);
        s.due("cry(2, MIN)", x.cry(2, Integer.MIN_VALUE), NO_SUCH);
        s.due("no false cries by them", x.total(6), 1);
    }

    private static void cryRefusals(Sentences s) {
        s.of(CRY, "NOT_POSSIBLE if it is not the time of seeking,");
        SeekLeague x = hiding(3, 8);
        x.hide(1, 1);
        x.hide(2, 8);
        s.due("at hiding", x.cry(1, 1), NOT_POSSIBLE);
        s.due("without a round", Leagues.withPlayers(2).cry(1, 1), NOT_POSSIBLE);
        x.seek();
        s.of(CRY, "if the player is the seeker,");
        s.due("himself", x.cry(0, 0), NOT_POSSIBLE);
        s.due("himself elsewhere", x.cry(0, 1), NOT_POSSIBLE);
        s.of(CRY, "or if the spot is farther than the sight.");
        s.due("2 with sight 1", x.cry(2, 2), NOT_POSSIBLE);
        s.due("14 with sight 1", x.cry(2, 14), NOT_POSSIBLE);
        s.due("8, where he hides", x.cry(2, 8), NOT_POSSIBLE);
        s.due("no false cry", x.total(6), 0);
        x.set(0, 0);
        s.due("1 with sight 0", x.cry(1, 1), NOT_POSSIBLE);
        s.due("0 with sight 0", x.cry(1, 0), 0);
        x.set(0, 3);
        s.due("13 with sight 3", x.cry(1, 13), 0);
    }

    private static void dash(Sentences s) {
        s.of(DASH, "Lets a player dash.");
        s.of(DASH, "Returns 1 if the player escapes, 0 if the player is found;");
        SeekLeague x = Leagues.seeking(2, 3, 14, 13);
        Leagues.walk(x, 1, 3);
        s.due("nearer on the seeker's side", x.dash(1), 1);
        s.due("as far on the seeker's side", x.dash(2), 0);
        s.due("nearer on the other side", x.dash(3), 1);
        s.due("as far on the other side", x.dash(4), 0);
        s.of(DASH, "Undoable.");
        SeekLeague found = Leagues.seeking(8);
        found.dash(1);
        undone(s, found, 5, Leagues.seeking(8));
        SeekLeague escaped = Leagues.seeking(1);
        Leagues.walk(escaped, 1, 2);
        escaped.dash(1);
        SeekLeague before = Leagues.seeking(1);
        Leagues.walk(before, 1, 2);
        undone(s, escaped, 5, before);
        s.of(DASH, "- `player`: number of a player");
        SeekLeague eight = Leagues.seeking(1, 1, 2, 2, 3, 3, 4);
        s.due("the last", eight.dash(7), 0);
        s.due("the second", eight.dash(1), 0);
    }

    private static void dashRefusals(Sentences s) {
        s.of(DASH, "NO_SUCH if there is no such player;");
        SeekLeague x = Leagues.seeking(1, NONE);
        s.due("dash(-1)", x.dash(-1), NO_SUCH);
        s.due("dash(3)", x.dash(3), NO_SUCH);
        s.due("dash(MIN)", x.dash(Integer.MIN_VALUE), NO_SUCH);
        s.due("dash(MAX)", x.dash(Integer.MAX_VALUE), NO_SUCH);
        s.of(DASH, "NOT_POSSIBLE if it is not the time of seeking,");
        s.due("without a round", Leagues.withPlayers(2).dash(1), NOT_POSSIBLE);
        SeekLeague y = hiding(2, 8);
        y.hide(1, 1);
        s.due("at hiding", y.dash(1), NOT_POSSIBLE);
        s.due("hidden still", y.player(1, 6), 1);
        s.of(DASH, "or if the player is not hidden.");
        s.due("the seeker", x.dash(0), NOT_POSSIBLE);
        s.due("one who did not hide", x.dash(2), NOT_POSSIBLE);
        SeekLeague z = Leagues.seeking(1, 8, 15);
        z.cry(1, 1);
        s.due("one who is found", z.dash(1), NOT_POSSIBLE);
        Leagues.walk(z, 1, 2);
        z.dash(3);
        s.due("one who has escaped", z.dash(3), NOT_POSSIBLE);
    }
}
