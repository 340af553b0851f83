/** Promises 5 to 10: start, hide, seek, walk, cry, dash, and how a round ends and spots rest. */
public final class RoundsTest {
    private static final Check CHECK = new Check();
    private static final int NO_SUCH = SeekLeague.NO_SUCH;
    private static final int BAD_VALUE = SeekLeague.BAD_VALUE;
    private static final int NOT_POSSIBLE = SeekLeague.NOT_POSSIBLE;
    private static final int NONE = SeekLeague.NONE;

    public static void main(String[] args) {
        startCountsTheSpotsInReach();
        startRefusals();
        startSetsTheRound();
        hideReturnsTheDistance();
        hideRefusals();
        hideAtFullSpots();
        hideAtRetiredSpots();
        seekBeginsAtTheBase();
        seekWithNobodyHidden();
        seekFindsThoseWhoDidNotHide();
        walkGoesAroundTheCircle();
        walkRefusals();
        cryFinds();
        cryFalsely();
        cryOfPlayersWhoAreNotHidden();
        cryRefusals();
        crySeesAsFarAsTheSight();
        lastFalseCryEndsTheRound();
        thePlayerZeroHidesToo();
        aLoweredSettingEndsTheRoundWithTheNextFalseCry();
        dashAgainstTheSeeker();
        dashRefusals();
        dashEndsTheRound();
        retiredSpotsRest();
        restOfOneRound();
        withoutRestSpotsStayRetired();
        restCountsRoundsFromBeforeTheSettingChanged();
        findsSettingCountsWithTheNextFind();
        CHECK.finish("RoundsTest");
    }

    private static void startCountsTheSpotsInReach() {
        int[] counts = {2, 4, 6, 8, 10, 12, 14, 15};
        for (int breaths = 1; breaths <= 8; breaths++) {
            SeekLeague x = Leagues.withPlayers(2);
            CHECK.due("start(1, " + breaths + ")", x.start(1, breaths), counts[breaths - 1]);
        }
        SeekLeague y = Leagues.seeking(1, 15);
        y.set(1, 1);
        y.cry(1, 1);
        y.cry(2, 15);
        CHECK.due("start with two retired spots", y.start(0, 8), 13);
    }

    private static void startRefusals() {
        SeekLeague x = new SeekLeague();
        CHECK.due("start without players", x.start(0, 9), NO_SUCH);
        x.join();
        CHECK.due("start alone, no breaths", x.start(0, 0), BAD_VALUE);
        CHECK.due("start alone", x.start(0, 1), NOT_POSSIBLE);
        x.join();
        CHECK.due("start(-1, 1)", x.start(-1, 1), NO_SUCH);
        CHECK.due("start(2, 9)", x.start(2, 9), NO_SUCH);
        CHECK.due("start(MAX, 1)", x.start(Integer.MAX_VALUE, 1), NO_SUCH);
        CHECK.due("start(0, 0)", x.start(0, 0), BAD_VALUE);
        CHECK.due("start(0, 9)", x.start(0, 9), BAD_VALUE);
        CHECK.due("start(0, MIN)", x.start(0, Integer.MIN_VALUE), BAD_VALUE);
        CHECK.due("no round yet", x.total(2), 0);
        CHECK.due("no turn counted yet", x.player(0, 1), 0);
        x.start(0, 8);
        CHECK.due("start at hiding", x.start(1, 8), NOT_POSSIBLE);
        CHECK.due("start at hiding, bad breaths", x.start(1, 9), BAD_VALUE);
        x.hide(1, 8);
        x.seek();
        CHECK.due("start at seeking", x.start(1, 8), NOT_POSSIBLE);
    }

    private static void startSetsTheRound() {
        SeekLeague x = Leagues.withPlayers(3);
        x.start(2, 5);
        CHECK.due("total(2)", x.total(2), 1);
        CHECK.due("total(3)", x.total(3), 2);
        CHECK.due("total(4)", x.total(4), 5);
        CHECK.due("total(5)", x.total(5), NONE);
        CHECK.due("rounds as the seeker", x.player(2, 1), 1);
        CHECK.due("rounds as the seeker of another", x.player(0, 1), 0);
        CHECK.due("no round has ended", x.total(1), 0);
    }

    private static void hideReturnsTheDistance() {
        int[] distances = {0, 1, 2, 3, 4, 5, 6, 7, 8, 7, 6, 5, 4, 3, 2, 1};
        for (int spot = 1; spot < 16; spot++) {
            SeekLeague x = Leagues.withPlayers(2);
            x.start(0, distances[spot]);
            CHECK.due("hide(1, " + spot + ")", x.hide(1, spot), distances[spot]);
            CHECK.due("it hides there", x.player(1, 6), spot);
            if (distances[spot] > 1) {
                SeekLeague y = Leagues.withPlayers(2);
                y.start(0, distances[spot] - 1);
                CHECK.due("a breath too few for " + spot, y.hide(1, spot), NOT_POSSIBLE);
                CHECK.due("it does not hide", y.player(1, 6), NONE);
            }
        }
    }

    private static void hideRefusals() {
        SeekLeague x = Leagues.withPlayers(3);
        CHECK.due("hide(3, 1) without a round", x.hide(3, 1), NO_SUCH);
        CHECK.due("hide(1, 1) without a round", x.hide(1, 1), NOT_POSSIBLE);
        x.start(0, 8);
        CHECK.due("hide(-1, 1)", x.hide(-1, 1), NO_SUCH);
        CHECK.due("hide(3, 1)", x.hide(3, 1), NO_SUCH);
        CHECK.due("hide(1, -1)", x.hide(1, -1), NO_SUCH);
        CHECK.due("hide(1, 16)", x.hide(1, 16), NO_SUCH);
        CHECK.due("hide(MIN, MAX)", x.hide(Integer.MIN_VALUE, Integer.MAX_VALUE), NO_SUCH);
        CHECK.due("the seeker hides", x.hide(0, 1), NOT_POSSIBLE);
        CHECK.due("hide at the base", x.hide(1, 0), NOT_POSSIBLE);
        CHECK.due("hide(1, 1)", x.hide(1, 1), 1);
        CHECK.due("hide twice", x.hide(1, 2), NOT_POSSIBLE);
        CHECK.due("it stays", x.player(1, 6), 1);
        x.seek();
        CHECK.due("hide at seeking", x.hide(2, 2), NOT_POSSIBLE);
    }

    private static void hideAtFullSpots() {
        SeekLeague x = Leagues.withPlayers(5);
        x.start(0, 3);
        x.hide(1, 3);
        x.hide(2, 3);
        CHECK.due("the third at a spot", x.hide(3, 3), SeekLeague.LIMIT);
        CHECK.due("the seeker at a full spot", x.hide(0, 3), NOT_POSSIBLE);
        CHECK.due("a hidden one at a full spot", x.hide(1, 3), NOT_POSSIBLE);
        CHECK.due("elsewhere", x.hide(3, 13), 3);
        CHECK.due("two there", x.spot(3, 3), 0b110);
    }

    private static void hideAtRetiredSpots() {
        SeekLeague x = Leagues.seeking(1);
        x.set(1, 1);
        x.cry(1, 1);
        x.start(0, 8);
        CHECK.due("hide at a retired spot", x.hide(1, 1), NOT_POSSIBLE);
        CHECK.due("hide beside it", x.hide(1, 2), 2);
    }

    private static void seekBeginsAtTheBase() {
        SeekLeague x = Leagues.withPlayers(4);
        CHECK.due("seek() without a round", x.seek(), NOT_POSSIBLE);
        x.start(1, 8);
        x.hide(0, 5);
        x.hide(3, 5);
        CHECK.due("seek()", x.seek(), 2);
        CHECK.due("total(2)", x.total(2), 2);
        CHECK.due("total(3)", x.total(3), 1);
        CHECK.due("total(4)", x.total(4), 8);
        CHECK.due("total(5)", x.total(5), 0);
        CHECK.due("seek() at seeking", x.seek(), NOT_POSSIBLE);
    }

    private static void seekWithNobodyHidden() {
        SeekLeague x = Leagues.withPlayers(2);
        x.start(1, 8);
        CHECK.due("seek() with nobody hidden", x.seek(), 0);
        CHECK.due("the round has ended", x.total(1), 1);
        CHECK.due("no part", x.total(2), 0);
        CHECK.due("no seeker", x.total(3), NONE);
        CHECK.due("no breaths", x.total(4), NONE);
        CHECK.due("no spot", x.total(5), NONE);
        CHECK.due("no points", x.total(9), 0);
        CHECK.due("the turn counts", x.player(1, 1), 1);
    }

    private static void seekFindsThoseWhoDidNotHide() {
        SeekLeague x = Leagues.seeking(NONE, 1);
        CHECK.due("no points", x.total(9), 0);
        CHECK.due("no players found", x.player(0, 2), 0);
        CHECK.due("it isn't hidden", x.player(1, 6), NONE);
        CHECK.due("it can't dash", x.dash(1), NOT_POSSIBLE);
    }

    private static void walkGoesAroundTheCircle() {
        SeekLeague x = Leagues.seeking(8);
        for (int step = 1; step <= 17; step++) {
            CHECK.due("walk(1)", x.walk(1), step % 16);
        }
        CHECK.due("walk(0)", x.walk(0), 1);
        CHECK.due("walk(-1)", x.walk(-1), 0);
        CHECK.due("walk(-1)", x.walk(-1), 15);
        CHECK.due("walk(0)", x.walk(0), 15);
        CHECK.due("total(5)", x.total(5), 15);
        CHECK.due("walk(1)", x.walk(1), 0);
    }

    private static void walkRefusals() {
        SeekLeague x = Leagues.withPlayers(2);
        CHECK.due("walk(2) without a round", x.walk(2), BAD_VALUE);
        CHECK.due("walk(0) without a round", x.walk(0), NOT_POSSIBLE);
        x.start(0, 8);
        CHECK.due("walk(1) at hiding", x.walk(1), NOT_POSSIBLE);
        x.hide(1, 8);
        x.seek();
        CHECK.due("walk(-2)", x.walk(-2), BAD_VALUE);
        CHECK.due("walk(2)", x.walk(2), BAD_VALUE);
        CHECK.due("walk(MAX)", x.walk(Integer.MAX_VALUE), BAD_VALUE);
        CHECK.due("walk(MIN)", x.walk(Integer.MIN_VALUE), BAD_VALUE);
        CHECK.due("it stays at the base", x.total(5), 0);
    }

    private static void cryFinds() {
        SeekLeague x = Leagues.seeking(1, 15);
        CHECK.due("cry(1, 1)", x.cry(1, 1), 1);
        CHECK.due("the seeker's points", x.player(0, 0), 2);
        CHECK.due("the seeker's finds", x.player(0, 2), 1);
        CHECK.due("the spot's finds", x.spot(1, 1), 1);
        CHECK.due("no points for the one found", x.player(1, 0), 0);
        CHECK.due("no longer hidden", x.player(1, 6), NONE);
        CHECK.due("the round goes on", x.total(2), 2);
        CHECK.due("cry(2, 15)", x.cry(2, 15), 1);
        CHECK.due("the seeker's points", x.player(0, 0), 4);
        CHECK.due("the seeker's finds", x.player(0, 2), 2);
        CHECK.due("the round has ended", x.total(1), 1);
        CHECK.due("no part", x.total(2), 0);
        CHECK.due("no seeker", x.total(3), NONE);
        CHECK.due("no breaths", x.total(4), NONE);
        CHECK.due("no spot", x.total(5), NONE);
    }

    private static void cryFalsely() {
        SeekLeague x = Leagues.seeking(1, 2);
        x.set(3, 9);
        CHECK.due("another spot", x.cry(1, 15), 0);
        CHECK.due("another player", x.cry(2, 1), 0);
        CHECK.due("the base", x.cry(1, 0), 0);
        CHECK.due("points", x.player(0, 0), -3);
        CHECK.due("false cries", x.player(0, 3), 3);
        CHECK.due("false cries of the round", x.total(6), 3);
        CHECK.due("finds", x.player(0, 2), 0);
        CHECK.due("still hidden", x.total(7), 2);
        CHECK.due("no find at the spot", x.spot(1, 1), 0);
    }

    private static void cryOfPlayersWhoAreNotHidden() {
        SeekLeague x = Leagues.seeking(1, 8, NONE);
        x.set(3, 9);
        x.cry(1, 1);
        CHECK.due("cry of one found already", x.cry(1, 1), 0);
        CHECK.due("cry of one who did not hide", x.cry(3, 1), 0);
        CHECK.due("points", x.player(0, 0), 0);
    }

    private static void cryRefusals() {
        SeekLeague x = Leagues.withPlayers(3);
        CHECK.due("cry(3, 1) without a round", x.cry(3, 1), NO_SUCH);
        CHECK.due("cry(1, 1) without a round", x.cry(1, 1), NOT_POSSIBLE);
        x.start(0, 8);
        x.hide(1, 1);
        CHECK.due("cry(1, 1) at hiding", x.cry(1, 1), NOT_POSSIBLE);
        x.seek();
        CHECK.due("cry(-1, 1)", x.cry(-1, 1), NO_SUCH);
        CHECK.due("cry(3, 1)", x.cry(3, 1), NO_SUCH);
        CHECK.due("cry(1, -1)", x.cry(1, -1), NO_SUCH);
        CHECK.due("cry(1, 16)", x.cry(1, 16), NO_SUCH);
        CHECK.due("cry(MAX, MIN)", x.cry(Integer.MAX_VALUE, Integer.MIN_VALUE), NO_SUCH);
        CHECK.due("cry of the seeker", x.cry(0, 1), NOT_POSSIBLE);
        CHECK.due("cry too far", x.cry(1, 2), NOT_POSSIBLE);
        CHECK.due("cry too far the other way", x.cry(1, 14), NOT_POSSIBLE);
        CHECK.due("no false cry", x.total(6), 0);
        CHECK.due("no points", x.total(9), 0);
    }

    private static void crySeesAsFarAsTheSight() {
        for (int sight = 0; sight <= 3; sight++) {
            for (int spot = 0; spot < 16; spot++) {
                SeekLeague x = Leagues.seeking(8);
                x.set(0, sight);
                x.walk(-1);
                int steps = Math.abs(15 - spot);
                boolean isSeen = Math.min(steps, 16 - steps) <= sight;
                CHECK.due("from 15, sight " + sight + ": cry(1, " + spot + ")",
                        x.cry(1, spot), isSeen ? 0 : NOT_POSSIBLE);
            }
        }
    }

    private static void lastFalseCryEndsTheRound() {
        SeekLeague x = Leagues.seeking(8, 1, 9, NONE);
        x.cry(2, 1);
        CHECK.due("the first false cry", x.cry(1, 1), 0);
        CHECK.due("the round goes on", x.total(2), 2);
        CHECK.due("the last false cry", x.cry(1, 1), 0);
        CHECK.due("the round has ended", x.total(1), 1);
        CHECK.due("no part", x.total(2), 0);
        CHECK.due("no false cries of a round", x.total(6), 0);
        CHECK.due("nobody is hidden", x.total(7), 0);
        CHECK.due("the seeker's points", x.player(0, 0), 0);
        CHECK.due("the seeker's false cries", x.player(0, 3), 2);
        CHECK.due("a point for the first hidden", x.player(1, 0), 1);
        CHECK.due("an escape for the first hidden", x.player(1, 4), 1);
        CHECK.due("a point for the other hidden", x.player(3, 0), 1);
        CHECK.due("none for the one found", x.player(2, 0), 0);
        CHECK.due("no escape for the one found", x.player(2, 4), 0);
        CHECK.due("none for the one who did not hide", x.player(4, 0), 0);
        Leagues.playHiding(x, 8);
        CHECK.due("a new round has no false cries", x.total(6), 0);
        CHECK.due("its first false cry", x.cry(1, 1), 0);
        CHECK.due("it goes on", x.total(2), 2);
        CHECK.due("false cries of it", x.total(6), 1);
        CHECK.due("false cries of all rounds", x.player(0, 3), 3);
    }

    private static void thePlayerZeroHidesToo() {
        SeekLeague x = Leagues.withPlayers(2);
        x.start(1, 8);
        x.hide(0, 4);
        CHECK.due("hiders at 4", x.spot(4, 3), 1);
        x.seek();
        CHECK.due("steps", x.fewestSteps(), 3);
        Leagues.walk(x, -1, 5);
        CHECK.due("0 could dash", x.couldDash(), 1);
        x.cry(0, 12);
        x.cry(0, 12);
        CHECK.due("a point", x.player(0, 0), 1);
        CHECK.due("an escape", x.player(0, 4), 1);
        CHECK.due("the seeker's points", x.player(1, 0), -2);
    }

    private static void aLoweredSettingEndsTheRoundWithTheNextFalseCry() {
        SeekLeague x = Leagues.seeking(8, 1);
        x.set(3, 9);
        x.cry(1, 0);
        x.cry(1, 0);
        x.set(3, 1);
        CHECK.due("the setting ends no round", x.total(2), 2);
        CHECK.due("a find ends it neither", x.cry(2, 1), 1);
        CHECK.due("seeking", x.total(2), 2);
        CHECK.due("the next false cry", x.cry(1, 0), 0);
        CHECK.due("ends it", x.total(2), 0);
    }

    private static void dashAgainstTheSeeker() {
        SeekLeague x = Leagues.seeking(1, 2, 15, 8);
        Leagues.walk(x, -1, 2);
        CHECK.due("dash from less far", x.dash(1), 1);
        CHECK.due("points", x.player(1, 0), 3);
        CHECK.due("escapes", x.player(1, 4), 1);
        CHECK.due("not hidden", x.player(1, 6), NONE);
        CHECK.due("the seeker gets nothing", x.player(0, 0), 0);
        CHECK.due("dash from as far", x.dash(2), 0);
        CHECK.due("the seeker's point", x.player(0, 0), 1);
        CHECK.due("the seeker's finds", x.player(0, 2), 1);
        CHECK.due("no find at the spot", x.spot(2, 1), 0);
        CHECK.due("no escape", x.player(2, 4), 0);
        CHECK.due("no point", x.player(2, 0), 0);
        CHECK.due("not hidden", x.player(2, 6), NONE);
        CHECK.due("dash on the seeker's side", x.dash(3), 1);
        CHECK.due("dash from farther", x.dash(4), 0);
        CHECK.due("the seeker's points", x.player(0, 0), 2);
    }

    private static void dashRefusals() {
        SeekLeague x = Leagues.withPlayers(3);
        CHECK.due("dash(3) without a round", x.dash(3), NO_SUCH);
        CHECK.due("dash(1) without a round", x.dash(1), NOT_POSSIBLE);
        x.start(0, 8);
        x.hide(1, 1);
        CHECK.due("dash(1) at hiding", x.dash(1), NOT_POSSIBLE);
        x.seek();
        CHECK.due("dash(-1)", x.dash(-1), NO_SUCH);
        CHECK.due("dash(3)", x.dash(3), NO_SUCH);
        CHECK.due("dash(MAX)", x.dash(Integer.MAX_VALUE), NO_SUCH);
        CHECK.due("dash of the seeker", x.dash(0), NOT_POSSIBLE);
        CHECK.due("dash of one who did not hide", x.dash(2), NOT_POSSIBLE);
    }

    private static void dashEndsTheRound() {
        SeekLeague x = Leagues.seeking(1);
        CHECK.due("the last one is found", x.dash(1), 0);
        CHECK.due("the round has ended", x.total(1), 1);
        CHECK.due("no part", x.total(2), 0);
        Leagues.playHiding(x, 1);
        Leagues.walk(x, 1, 2);
        CHECK.due("the last one escapes", x.dash(1), 1);
        CHECK.due("the round has ended", x.total(1), 2);
        CHECK.due("no seeker", x.total(3), NONE);
    }

    private static void retiredSpotsRest() {
        SeekLeague x = Leagues.seeking(1, 1, 8);
        x.cry(1, 1);
        CHECK.due("one find: open", x.spot(1, 2), 0);
        x.cry(2, 1);
        CHECK.due("two finds: retired", x.spot(1, 2), 1);
        CHECK.due("finds", x.spot(1, 1), 2);
        CHECK.due("retired spots", x.total(8), 1);
        x.dash(3);
        CHECK.due("after its own round", x.spot(1, 2), 1);
        CHECK.due("finds stay", x.spot(1, 1), 2);
        CHECK.due("a spot less", x.start(0, 8), 14);
        x.seek();
        CHECK.due("after the second round", x.spot(1, 2), 0);
        CHECK.due("no finds", x.spot(1, 1), 0);
        CHECK.due("retired spots", x.total(8), 0);
        CHECK.due("all spots", x.start(0, 8), 15);
    }

    private static void restOfOneRound() {
        SeekLeague x = Leagues.seeking(1);
        x.set(1, 1);
        x.set(2, 1);
        CHECK.due("the find that ends the round", x.cry(1, 1), 1);
        CHECK.due("open at once", x.spot(1, 2), 0);
        CHECK.due("no finds", x.spot(1, 1), 0);
        Leagues.playHiding(x, 1, 8);
        x.set(1, 2);
        x.cry(1, 1);
        x.dash(2);
        CHECK.due("not retired: finds stay", x.spot(1, 1), 1);
    }

    private static void withoutRestSpotsStayRetired() {
        SeekLeague x = Leagues.seeking(1);
        x.set(1, 1);
        x.set(2, 0);
        x.cry(1, 1);
        for (int round = 0; round < 12; round++) {
            Leagues.playEmptyRound(x, 0);
        }
        CHECK.due("still retired", x.spot(1, 2), 1);
        CHECK.due("finds", x.spot(1, 1), 1);
    }

    private static void restCountsRoundsFromBeforeTheSettingChanged() {
        SeekLeague x = Leagues.seeking(1);
        x.set(1, 1);
        x.set(2, 0);
        x.cry(1, 1);
        Leagues.playEmptyRound(x, 0);
        x.set(2, 4);
        CHECK.due("the setting opens nothing", x.spot(1, 2), 1);
        Leagues.playEmptyRound(x, 0);
        CHECK.due("three rounds of four", x.spot(1, 2), 1);
        x.set(2, 1);
        CHECK.due("a lower setting opens nothing", x.spot(1, 2), 1);
        Leagues.playEmptyRound(x, 0);
        CHECK.due("the next round's end does", x.spot(1, 2), 0);
    }

    private static void findsSettingCountsWithTheNextFind() {
        SeekLeague x = Leagues.seeking(1, 1, 15, 15);
        x.set(1, 9);
        x.cry(1, 1);
        x.cry(2, 1);
        x.cry(3, 15);
        x.set(1, 1);
        CHECK.due("the setting retires nothing", x.total(8), 0);
        x.cry(4, 15);
        CHECK.due("a find does", x.spot(15, 2), 1);
        CHECK.due("not elsewhere", x.spot(1, 2), 0);
    }
}
