import java.io.IOException;

/** Each sentence of the document that tells what is due has a test of its own, which quotes it. */
public final class SentencesTest {
    public static void main(String[] args) throws IOException {
        Doc.read();
        SentencesOfFace.check();
        SentencesOfTerms.check();
        SentencesOfSteps.check();
        SentencesOfBells.check();
        SentencesOfRingers.check();
        SentencesOfTolls.check();
        SentencesOfMinutes.check();
        nothingLeft();
        Check.finish();
    }

    /** What is passed over tells nothing that a call could answer. */
    private static void nothingLeft() {
        Doc.nothingLeft("What it is");
        Doc.nothingLeft("The public face");
        Doc.nothingLeft("Terms",
            "Each toll is rung on one of four bells: tellers first, then a stroke for each year of the age; "
                + "leathers on the clappers muffle the strokes of one side or of both, and get worn; "
                + "ringers pull till they are too tired, and are relieved by those who rested; "
                + "and it is told how far each toll is, how many strokes were loud, what age one counts who "
                + "listens far away, "
                + "how long a leather lasts, when a toll will be done, on which bell one would be done soonest, "
                + "and how the next minutes will be.");
        Doc.nothingLeft("Promise");
    }
}
