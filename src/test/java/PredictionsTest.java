/** What is seen from every spot, and the fewest steps to all whom a search over all walks knows. */
public final class PredictionsTest {
    private static final Check CHECK = new Check();
    private static final int NOT_POSSIBLE = SeekLeague.NOT_POSSIBLE;

    public static void main(String[] args) {
        crySeesAsFarAsTheSight();
        fewestStepsWithATurn();
        fewestStepsOfThoseStillHidden();
        fewestStepsAgainstAllWalks();
        CHECK.finish("PredictionsTest");
    }

    private static void crySeesAsFarAsTheSight() {
        for (int sight = 0; sight <= 3; sight++) {
            for (int spot = 0; spot < 16; spot++) {
                SeekLeague x = Leagues.seeking(8);
                x.set(0, sight);
                x.walk(-1);
                int steps = Math.abs(15 - spot);
                boolean isSeen = Math.min(steps, 16 - steps) <= sight;
                CHECK.due("from 15, sight " + sight + ": cry(1, " + spot + ")",
                        x.cry(1, spot), isSeen ? 0 : NOT_POSSIBLE);
            }
        }
    }

    private static void fewestStepsWithATurn() {
        CHECK.due("first 14, then 4", Leagues.seeking(4, 14).fewestSteps(), 5);
        CHECK.due("first 2, then 12", Leagues.seeking(2, 12).fewestSteps(), 5);
        CHECK.due("as far on both sides", Leagues.seeking(3, 13).fewestSteps(), 6);
        CHECK.due("all the way around", Leagues.seeking(4, 7, 10).fewestSteps(), 9);
        CHECK.due("the other way around", Leagues.seeking(5, 8, 11, 14).fewestSteps(), 10);
    }

    private static void fewestStepsOfThoseStillHidden() {
        SeekLeague x = Leagues.seeking(8, 1, 3);
        CHECK.due("with all", x.fewestSteps(), 7);
        x.dash(1);
        CHECK.due("without the far one", x.fewestSteps(), 2);
        x.dash(3);
        CHECK.due("with one in sight", x.fewestSteps(), 0);
    }

    private static void fewestStepsAgainstAllWalks() {
        for (int sight = 0; sight <= 3; sight++) {
            for (int one = 1; one < 16; one++) {
                for (int two = one; two < 16; two++) {
                    for (int three = 1; three < 16; three += 3) {
                        if (one == two && two == three) {
                            continue;
                        }
                        int[] spots = {one, two, three};
                        SeekLeague x = Leagues.seeking(spots);
                        x.set(0, sight);
                        CHECK.due("steps to " + one + ", " + two + ", " + three + " with " + sight,
                                x.fewestSteps(), Walks.fewestSteps(0, spots, sight));
                    }
                }
            }
        }
    }
}
