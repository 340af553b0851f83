/** Promises 16 to 19: inSight, couldDash, bestSpot, fewestSteps. */
public final class PredictionsTest {
    private static final Check CHECK = new Check();
    private static final int NOT_POSSIBLE = SeekLeague.NOT_POSSIBLE;
    private static final int NONE = SeekLeague.NONE;

    public static void main(String[] args) {
        predictionsHaveTheirTime();
        spotsInSight();
        playersWhoCouldDash();
        bestSpotByDistance();
        bestSpotByFinds();
        bestSpotByHiders();
        noBestSpot();
        bestSpotWhenAllAreHidden();
        fewestStepsOneWay();
        fewestStepsWithATurn();
        fewestStepsOfThoseStillHidden();
        fewestStepsAgainstAllWalks();
        CHECK.finish("PredictionsTest");
    }

    private static void predictionsHaveTheirTime() {
        SeekLeague x = Leagues.withPlayers(2);
        CHECK.due("inSight() without a round", x.inSight(), NOT_POSSIBLE);
        CHECK.due("couldDash() without a round", x.couldDash(), NOT_POSSIBLE);
        CHECK.due("bestSpot() without a round", x.bestSpot(), NOT_POSSIBLE);
        CHECK.due("fewestSteps() without a round", x.fewestSteps(), NOT_POSSIBLE);
        x.start(0, 8);
        x.hide(1, 8);
        CHECK.due("inSight() at hiding", x.inSight(), NOT_POSSIBLE);
        CHECK.due("couldDash() at hiding", x.couldDash(), NOT_POSSIBLE);
        CHECK.due("fewestSteps() at hiding", x.fewestSteps(), NOT_POSSIBLE);
        x.seek();
        CHECK.due("bestSpot() at seeking", x.bestSpot(), NOT_POSSIBLE);
        CHECK.due("predictions record nothing", x.undo(), 4);
    }

    private static void spotsInSight() {
        SeekLeague x = Leagues.seeking(8);
        CHECK.due("at the base, sight 1", x.inSight(), 0b1000000000000011);
        x.set(0, 0);
        CHECK.due("at the base, sight 0", x.inSight(), 0b1);
        x.set(0, 3);
        CHECK.due("at the base, sight 3", x.inSight(), 0b1110000000001111);
        Leagues.walk(x, 1, 8);
        CHECK.due("at 8, sight 3", x.inSight(), 0b0000111111100000);
        x.set(0, 0);
        CHECK.due("at 8, sight 0", x.inSight(), 0b100000000);
        Leagues.walk(x, 1, 6);
        x.set(0, 2);
        CHECK.due("at 14, sight 2", x.inSight(), 0b1111000000000001);
    }

    private static void playersWhoCouldDash() {
        SeekLeague x = Leagues.seeking(1, 2, 14, 8, NONE);
        CHECK.due("at the base", x.couldDash(), 0);
        x.walk(-1);
        CHECK.due("one away", x.couldDash(), 0);
        x.walk(-1);
        CHECK.due("two away", x.couldDash(), 0b10);
        x.walk(-1);
        CHECK.due("three away", x.couldDash(), 0b1110);
        x.dash(1);
        CHECK.due("without the first", x.couldDash(), 0b1100);
        Leagues.walk(x, -1, 5);
        CHECK.due("eight away", x.couldDash(), 0b1100);
    }

    private static void bestSpotByDistance() {
        int[] best = {1, 2, 3, 4, 5, 6, 7, 8};
        for (int breaths = 1; breaths <= 8; breaths++) {
            SeekLeague x = Leagues.withPlayers(2);
            x.start(0, breaths);
            CHECK.due("bestSpot() with " + breaths, x.bestSpot(), best[breaths - 1]);
        }
    }

    private static void bestSpotByFinds() {
        SeekLeague x = Leagues.seeking(1, 15, 8);
        x.cry(1, 1);
        x.dash(2);
        x.dash(3);
        x.start(0, 1);
        CHECK.due("fewer finds", x.bestSpot(), 15);
        x.hide(1, 15);
        CHECK.due("finds ahead of hiders", x.bestSpot(), 15);
        x.hide(2, 15);
        CHECK.due("15 is full", x.bestSpot(), 1);
    }

    private static void bestSpotByHiders() {
        SeekLeague x = Leagues.withPlayers(5);
        x.start(0, 3);
        x.hide(1, 3);
        CHECK.due("fewer hiders", x.bestSpot(), 13);
        x.hide(2, 13);
        CHECK.due("the lower number", x.bestSpot(), 3);
        x.hide(3, 3);
        CHECK.due("a full one is out", x.bestSpot(), 13);
        x.hide(4, 13);
        CHECK.due("less far", x.bestSpot(), 2);
    }

    private static void noBestSpot() {
        SeekLeague x = Leagues.withPlayers(6);
        x.start(0, 1);
        x.hide(1, 1);
        x.hide(2, 1);
        x.hide(3, 15);
        CHECK.due("one is left", x.bestSpot(), 15);
        x.hide(4, 15);
        CHECK.due("none is left", x.bestSpot(), NONE);
        SeekLeague y = Leagues.seeking(1, 15);
        y.set(1, 1);
        y.cry(1, 1);
        y.cry(2, 15);
        CHECK.due("all retired", y.start(0, 1), 0);
        CHECK.due("none is open", y.bestSpot(), NONE);
    }

    /** What somebody could do is read as a question about the spot, as start() counts it. */
    private static void bestSpotWhenAllAreHidden() {
        SeekLeague x = Leagues.withPlayers(2);
        x.start(0, 2);
        x.hide(1, 2);
        CHECK.due("all are hidden", x.bestSpot(), 14);
    }

    private static void fewestStepsOneWay() {
        CHECK.due("in sight", Leagues.seeking(1, 15).fewestSteps(), 0);
        CHECK.due("one up", Leagues.seeking(2).fewestSteps(), 1);
        CHECK.due("one down", Leagues.seeking(14).fewestSteps(), 1);
        CHECK.due("the other side", Leagues.seeking(8).fewestSteps(), 7);
        CHECK.due("9 is nearer downward", Leagues.seeking(9).fewestSteps(), 6);
        SeekLeague x = Leagues.seeking(8);
        x.set(0, 3);
        CHECK.due("with sight 3", x.fewestSteps(), 5);
        x.set(0, 0);
        CHECK.due("with sight 0", x.fewestSteps(), 8);
        Leagues.walk(x, -1, 3);
        CHECK.due("after three steps", x.fewestSteps(), 5);
    }

    private static void fewestStepsWithATurn() {
        CHECK.due("first 14, then 4", Leagues.seeking(4, 14).fewestSteps(), 5);
        CHECK.due("first 2, then 12", Leagues.seeking(2, 12).fewestSteps(), 5);
        CHECK.due("as far on both sides", Leagues.seeking(3, 13).fewestSteps(), 6);
        CHECK.due("all the way around", Leagues.seeking(4, 7, 10).fewestSteps(), 9);
        CHECK.due("the other way around", Leagues.seeking(5, 8, 11, 14).fewestSteps(), 10);
    }

    private static void fewestStepsOfThoseStillHidden() {
        SeekLeague x = Leagues.seeking(8, 1, 3);
        CHECK.due("with all", x.fewestSteps(), 7);
        x.dash(1);
        CHECK.due("without the far one", x.fewestSteps(), 2);
        x.dash(3);
        CHECK.due("with one in sight", x.fewestSteps(), 0);
    }

    private static void fewestStepsAgainstAllWalks() {
        for (int sight = 0; sight <= 3; sight++) {
            for (int one = 1; one < 16; one++) {
                for (int two = one; two < 16; two++) {
                    for (int three = 1; three < 16; three += 3) {
                        if (one == two && two == three) {
                            continue;
                        }
                        int[] spots = {one, two, three};
                        SeekLeague x = Leagues.seeking(spots);
                        x.set(0, sight);
                        CHECK.due("steps to " + one + ", " + two + ", " + three + " with " + sight,
                                x.fewestSteps(), Walks.fewestSteps(0, spots, sight));
                    }
                }
            }
        }
    }
}
