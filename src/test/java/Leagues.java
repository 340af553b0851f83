/** Leagues in the states that many tests begin with. */
final class Leagues {
    private Leagues() {
    }

    static SeekLeague withPlayers(int players) {
        SeekLeague league = new SeekLeague();
        for (int i = 0; i < players; i++) {
            league.join();
        }
        return league;
    }

    /** Player 0 is the seeker and counts 8 breaths; player i + 1 hides at spots[i], NONE: nowhere. */
    static SeekLeague seeking(int... spots) {
        SeekLeague league = withPlayers(spots.length + 1);
        playHiding(league, spots);
        return league;
    }

    static void playHiding(SeekLeague league, int... spots) {
        league.start(0, 8);
        for (int i = 0; i < spots.length; i++) {
            if (spots[i] != SeekLeague.NONE) {
                league.hide(i + 1, spots[i]);
            }
        }
        league.seek();
    }

    static void walk(SeekLeague league, int way, int steps) {
        for (int i = 0; i < steps; i++) {
            league.walk(way);
        }
    }

    /** Begins and ends a round in which nobody hides. */
    static void playEmptyRound(SeekLeague league, int seeker) {
        league.start(seeker, 1);
        league.seek();
    }

    static void write(SeekLeague league, String text) {
        league.clearText();
        for (int i = 0; i < text.length(); i++) {
            league.append(text.charAt(i));
        }
    }
}
