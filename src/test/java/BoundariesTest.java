import java.util.Set;

/** Each sentence of the document that names what a call takes, does, refuses or answers has its test here. */
public final class BoundariesTest {
    /** The public face is FaceTest's. */
    private static final Set<String> OTHER_SECTIONS =
            Set.of("# SeekLeague", "The public face", "What it is", "Not promised");

    private BoundariesTest() {
    }

    public static void main(String[] args) throws Exception {
        Sentences s = new Sentences();
        EveryCall.check(s);
        SentencesOfTheYard.check(s);
        SentencesOfRounds.check(s);
        SentencesOfTextsAndUndo.check(s);
        SentencesOfPlayersAndRounds.check(s);
        SentencesOfQuestions.check(s);
        SentencesOfTextsAndStates.check(s);
        s.finish("BoundariesTest", OTHER_SECTIONS);
    }
}
