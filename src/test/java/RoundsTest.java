/** Whole rounds, and all that can be asked after them. */
public final class RoundsTest {
    private static final Check CHECK = new Check();
    private static final int NONE = SeekLeague.NONE;

    public static void main(String[] args) {
        cryFinds();
        lastFalseCryEndsTheRound();
        dashAgainstTheSeeker();
        retiredSpotsRest();
        totals();
        nextSeekers();
        aFullLeague();
        CHECK.finish("RoundsTest");
    }

    private static void cryFinds() {
        SeekLeague x = Leagues.seeking(1, 15);
        CHECK.due("cry(1, 1)", x.cry(1, 1), 1);
        CHECK.due("the seeker's points", x.player(0, 0), 2);
        CHECK.due("the seeker's finds", x.player(0, 2), 1);
        CHECK.due("the spot's finds", x.spot(1, 1), 1);
        CHECK.due("no points for the one found", x.player(1, 0), 0);
        CHECK.due("no longer hidden", x.player(1, 6), NONE);
        CHECK.due("the round goes on", x.total(2), 2);
        CHECK.due("cry(2, 15)", x.cry(2, 15), 1);
        CHECK.due("the seeker's points", x.player(0, 0), 4);
        CHECK.due("the seeker's finds", x.player(0, 2), 2);
        CHECK.due("the round has ended", x.total(1), 1);
        CHECK.due("no part", x.total(2), 0);
        CHECK.due("no seeker", x.total(3), NONE);
        CHECK.due("no breaths", x.total(4), NONE);
        CHECK.due("no spot", x.total(5), NONE);
    }

    private static void lastFalseCryEndsTheRound() {
        SeekLeague x = Leagues.seeking(8, 1, 9, NONE);
        x.cry(2, 1);
        CHECK.due("the first false cry", x.cry(1, 1), 0);
        CHECK.due("the round goes on", x.total(2), 2);
        CHECK.due("the last false cry", x.cry(1, 1), 0);
        CHECK.due("the round has ended", x.total(1), 1);
        CHECK.due("no part", x.total(2), 0);
        CHECK.due("no false cries of a round", x.total(6), 0);
        CHECK.due("nobody is hidden", x.total(7), 0);
        CHECK.due("the seeker's points", x.player(0, 0), 0);
        CHECK.due("the seeker's false cries", x.player(0, 3), 2);
        CHECK.due("a point for the first hidden", x.player(1, 0), 1);
        CHECK.due("an escape for the first hidden", x.player(1, 4), 1);
        CHECK.due("a point for the other hidden", x.player(3, 0), 1);
        CHECK.due("none for the one found", x.player(2, 0), 0);
        CHECK.due("no escape for the one found", x.player(2, 4), 0);
        CHECK.due("none for the one who did not hide", x.player(4, 0), 0);
        Leagues.playHiding(x, 8);
        CHECK.due("a new round has no false cries", x.total(6), 0);
        CHECK.due("its first false cry", x.cry(1, 1), 0);
        CHECK.due("it goes on", x.total(2), 2);
        CHECK.due("false cries of it", x.total(6), 1);
        CHECK.due("false cries of all rounds", x.player(0, 3), 3);
    }

    private static void dashAgainstTheSeeker() {
        SeekLeague x = Leagues.seeking(1, 2, 15, 8);
        Leagues.walk(x, -1, 2);
        CHECK.due("dash from less far", x.dash(1), 1);
        CHECK.due("points", x.player(1, 0), 3);
        CHECK.due("escapes", x.player(1, 4), 1);
        CHECK.due("not hidden", x.player(1, 6), NONE);
        CHECK.due("the seeker gets nothing", x.player(0, 0), 0);
        CHECK.due("dash from as far", x.dash(2), 0);
        CHECK.due("the seeker's point", x.player(0, 0), 1);
        CHECK.due("the seeker's finds", x.player(0, 2), 1);
        CHECK.due("no find at the spot", x.spot(2, 1), 0);
        CHECK.due("no escape", x.player(2, 4), 0);
        CHECK.due("no point", x.player(2, 0), 0);
        CHECK.due("not hidden", x.player(2, 6), NONE);
        CHECK.due("dash on the seeker's side", x.dash(3), 1);
        CHECK.due("dash from farther", x.dash(4), 0);
        CHECK.due("the seeker's points", x.player(0, 0), 2);
    }

    private static void retiredSpotsRest() {
        SeekLeague x = Leagues.seeking(1, 1, 8);
        x.cry(1, 1);
        CHECK.due("one find: open", x.spot(1, 2), 0);
        x.cry(2, 1);
        CHECK.due("two finds: retired", x.spot(1, 2), 1);
        CHECK.due("finds", x.spot(1, 1), 2);
        CHECK.due("retired spots", x.total(8), 1);
        x.dash(3);
        CHECK.due("after its own round", x.spot(1, 2), 1);
        CHECK.due("finds stay", x.spot(1, 1), 2);
        CHECK.due("a spot less", x.start(0, 8), 14);
        x.seek();
        CHECK.due("after the second round", x.spot(1, 2), 0);
        CHECK.due("no finds", x.spot(1, 1), 0);
        CHECK.due("retired spots", x.total(8), 0);
        CHECK.due("all spots", x.start(0, 8), 15);
    }

    private static void totals() {
        SeekLeague x = Leagues.seeking(1, 1, 15, 8);
        x.set(3, 5);
        x.set(1, 1);
        x.cry(1, 1);
        x.cry(1, 1);
        x.cry(4, 1);
        x.walk(1);
        x.walk(1);
        x.dash(3);
        int[] due = {5, 0, 2, 0, 8, 2, 2, 2, 1, 3};
        for (int what = 0; what < due.length; what++) {
            CHECK.due("total(" + what + ")", x.total(what), due[what]);
        }
        x.cry(2, 1);
        x.dash(4);
        int[] then = {5, 1, 0, NONE, NONE, NONE, 0, 0, 1, 6};
        for (int what = 0; what < then.length; what++) {
            CHECK.due("then total(" + what + ")", x.total(what), then[what]);
        }
        x.start(3, 4);
        x.hide(0, 3);
        int[] hiding = {5, 1, 1, 3, 4, NONE, 0, 1, 1, 6};
        for (int what = 0; what < hiding.length; what++) {
            CHECK.due("at hiding total(" + what + ")", x.total(what), hiding[what]);
        }
    }

    private static void nextSeekers() {
        SeekLeague x = Leagues.withPlayers(3);
        CHECK.due("the last in the ranks", x.nextSeeker(), 2);
        x.start(2, 1);
        CHECK.due("in the round already", x.nextSeeker(), 1);
        x.hide(1, 1);
        x.seek();
        x.walk(1);
        x.walk(1);
        x.dash(1);
        CHECK.due("fewer points", x.nextSeeker(), 0);
        Leagues.playEmptyRound(x, 0);
        CHECK.due("fewer rounds", x.nextSeeker(), 1);
        Leagues.playEmptyRound(x, 1);
        CHECK.due("all have one", x.nextSeeker(), 2);
        x.join();
        CHECK.due("a new player", x.nextSeeker(), 3);
    }

    private static void aFullLeague() {
        SeekLeague x = Leagues.seeking(1, 1, 2, 2, 3, 3, 8);
        CHECK.due("total(0)", x.total(0), 8);
        CHECK.due("total(7)", x.total(7), 7);
        Leagues.walk(x, -1, 4);
        CHECK.due("dash(7)", x.dash(7), 0);
        CHECK.due("dash(1)", x.dash(1), 1);
        CHECK.due("total(9)", x.total(9), 4);
        CHECK.due("ranked(7)", x.ranked(7), 7);
        CHECK.due("place of 7", x.player(7, 5), 7);
        CHECK.due("nextSeeker()", x.nextSeeker(), 7);
    }
}
