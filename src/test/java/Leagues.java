/** Leagues in the states that many tests begin with. */
final class Leagues {
    private Leagues() {
    }

    static SeekLeague withPlayers(int players) {
        SeekLeague league = new SeekLeague();
        for (int i = 0; i < players; i++) {
            league.join();
        }
        return league;
    }

    /** Player 0 is the seeker and counts 8 breaths; player i + 1 hides at spots[i], NONE: nowhere. */
    static SeekLeague seeking(int... spots) {
        SeekLeague league = withPlayers(spots.length + 1);
        playHiding(league, spots);
        return league;
    }

    static void playHiding(SeekLeague league, int... spots) {
        league.start(0, 8);
        for (int i = 0; i < spots.length; i++) {
            if (spots[i] != SeekLeague.NONE) {
                league.hide(i + 1, spots[i]);
            }
        }
        league.seek();
    }

    static void walk(SeekLeague league, int way, int steps) {
        for (int i = 0; i < steps; i++) {
            league.walk(way);
        }
    }

    /** Begins and ends a round in which nobody hides. */
    static void playEmptyRound(SeekLeague league, int seeker) {
        league.start(seeker, 1);
        league.seek();
    }

    static void write(SeekLeague league, String text) {
        league.clearText();
        for (int i = 0; i < text.length(); i++) {
            league.append(text.charAt(i));
        }
    }

    /** All that can be asked of a league, but for its buffer and what is recorded or saved. */
    static String describe(SeekLeague league) {
        StringBuilder text = new StringBuilder();
        for (int setting = 0; setting < 4; setting++) {
            text.append(league.setting(setting)).append(' ');
        }
        for (int what = 0; what < 10; what++) {
            text.append(league.total(what)).append(' ');
        }
        for (int player = 0; player < 8; player++) {
            for (int part = 0; part < 7; part++) {
                text.append(league.player(player, part)).append(' ');
            }
            text.append(league.ranked(player)).append(' ');
        }
        for (int spot = 0; spot < 16; spot++) {
            for (int part = 0; part < 4; part++) {
                text.append(league.spot(spot, part)).append(' ');
            }
        }
        text.append(league.nextSeeker()).append(' ').append(league.inSight()).append(' ');
        text.append(league.couldDash()).append(' ').append(league.bestSpot()).append(' ');
        return text.append(league.fewestSteps()).toString();
    }
}
