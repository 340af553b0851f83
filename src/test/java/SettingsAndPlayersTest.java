/** Promises 1 to 4: a new object, set, setting, join. */
public final class SettingsAndPlayersTest {
    private static final Check CHECK = new Check();

    public static void main(String[] args) {
        aNewLeagueIsEmpty();
        settingsHaveTheirFirstValues();
        setReturnsThePreviousValue();
        settingsKeepToTheirRanges();
        unknownSettings();
        aRefusedSetRecordsNothing();
        settingsChangeInARound();
        playersJoinInOrder();
        nobodyJoinsInARound();
        CHECK.finish("SettingsAndPlayersTest");
    }

    private static void aNewLeagueIsEmpty() {
        SeekLeague x = new SeekLeague();
        int[] totals = {0, 0, 0, SeekLeague.NONE, SeekLeague.NONE, SeekLeague.NONE, 0, 0, 0, 0};
        for (int what = 0; what < totals.length; what++) {
            CHECK.due("new: total(" + what + ")", x.total(what), totals[what]);
        }
        for (int spot = 0; spot < 16; spot++) {
            for (int part = 1; part < 4; part++) {
                CHECK.due("new: spot(" + spot + ", " + part + ")", x.spot(spot, part), 0);
            }
        }
        CHECK.due("new: player(0, 0)", x.player(0, 0), SeekLeague.NO_SUCH);
        CHECK.due("new: ranked(0)", x.ranked(0), SeekLeague.NO_SUCH);
        CHECK.due("new: nextSeeker()", x.nextSeeker(), SeekLeague.NONE);
        CHECK.due("new: clearText()", x.clearText(), 0);
        CHECK.due("new: undo()", x.undo(), SeekLeague.NOT_POSSIBLE);
        CHECK.due("new: restore()", x.restore(), SeekLeague.NOT_POSSIBLE);
    }

    private static void settingsHaveTheirFirstValues() {
        SeekLeague x = new SeekLeague();
        CHECK.due("setting(0)", x.setting(0), 1);
        CHECK.due("setting(1)", x.setting(1), 2);
        CHECK.due("setting(2)", x.setting(2), 2);
        CHECK.due("setting(3)", x.setting(3), 2);
    }

    private static void setReturnsThePreviousValue() {
        SeekLeague x = new SeekLeague();
        CHECK.due("set(0, 3)", x.set(0, 3), 1);
        CHECK.due("set(0, 3) again", x.set(0, 3), 3);
        CHECK.due("set(0, 0)", x.set(0, 0), 3);
        CHECK.due("set(1, 9)", x.set(1, 9), 2);
        CHECK.due("set(2, 8)", x.set(2, 8), 2);
        CHECK.due("set(3, 7)", x.set(3, 7), 2);
        CHECK.due("setting(0)", x.setting(0), 0);
        CHECK.due("setting(1)", x.setting(1), 9);
        CHECK.due("setting(2)", x.setting(2), 8);
        CHECK.due("setting(3)", x.setting(3), 7);
    }

    private static void settingsKeepToTheirRanges() {
        int[] lowest = {0, 1, 0, 1};
        int[] highest = {3, 9, 9, 9};
        int[] first = {1, 2, 2, 2};
        for (int setting = 0; setting < 4; setting++) {
            for (int value = -3; value < 13; value++) {
                SeekLeague x = new SeekLeague();
                boolean isGood = value >= lowest[setting] && value <= highest[setting];
                String call = "set(" + setting + ", " + value + ")";
                CHECK.due(call, x.set(setting, value), isGood ? first[setting] : SeekLeague.BAD_VALUE);
                CHECK.due("then setting", x.setting(setting), isGood ? value : first[setting]);
            }
            SeekLeague x = new SeekLeague();
            CHECK.due("set to the least int", x.set(setting, Integer.MIN_VALUE), SeekLeague.BAD_VALUE);
            CHECK.due("set to the greatest int", x.set(setting, Integer.MAX_VALUE), SeekLeague.BAD_VALUE);
        }
    }

    private static void unknownSettings() {
        SeekLeague x = new SeekLeague();
        int[] unknown = {-1, 4, Integer.MIN_VALUE, Integer.MAX_VALUE};
        for (int setting : unknown) {
            CHECK.due("set(" + setting + ", 1)", x.set(setting, 1), SeekLeague.BAD_VALUE);
            CHECK.due("setting(" + setting + ")", x.setting(setting), SeekLeague.BAD_VALUE);
        }
    }

    private static void aRefusedSetRecordsNothing() {
        SeekLeague x = new SeekLeague();
        x.set(0, 4);
        CHECK.due("undo() after a refused set", x.undo(), SeekLeague.NOT_POSSIBLE);
        x.set(0, 1);
        CHECK.due("undo() after a set without a difference", x.undo(), 0);
    }

    private static void settingsChangeInARound() {
        SeekLeague x = Leagues.seeking(3);
        CHECK.due("set(0, 3) in a round", x.set(0, 3), 1);
        CHECK.due("cry(1, 3) with the new sight", x.cry(1, 3), 1);
    }

    private static void playersJoinInOrder() {
        SeekLeague x = new SeekLeague();
        for (int player = 0; player < 8; player++) {
            CHECK.due("join()", x.join(), player);
            CHECK.due("total(0)", x.total(0), player + 1);
        }
        CHECK.due("join() as the ninth", x.join(), SeekLeague.LIMIT);
        CHECK.due("total(0) after it", x.total(0), 8);
    }

    private static void nobodyJoinsInARound() {
        SeekLeague x = Leagues.withPlayers(8);
        x.start(0, 8);
        CHECK.due("join() at hiding, with 8", x.join(), SeekLeague.NOT_POSSIBLE);
        SeekLeague y = Leagues.withPlayers(3);
        y.start(0, 8);
        CHECK.due("join() at hiding", y.join(), SeekLeague.NOT_POSSIBLE);
        y.hide(1, 1);
        y.seek();
        CHECK.due("join() at seeking", y.join(), SeekLeague.NOT_POSSIBLE);
        y.cry(1, 1);
        CHECK.due("join() after the round", y.join(), 3);
    }
}
