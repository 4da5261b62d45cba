/** Runs every test of the project; ends with exit code 1 if an answer was not as due. */
public final class AllTests {
    private AllTests() {
    }

    public static void main(String[] args) {
        FaceTests.run();
        ReadmeTests.run();
        TextTests.run();
        MachineTests.run();
        RoundTests.run();
        WordTests.run();
        ChangeTests.run();
        TextBoundaries.run();
        MachineBoundaries.run();
        RoundBoundaries.run();
        WordBoundaries.run();
        LogBoundaries.run();
        ChangeBoundaries.run();
        RefusalBoundaries.run();
        GridTests.run();
        Sentences.compare();
        RoomTests.run();
        RandomTests.run();
        System.out.println((Check.made - Check.wrong) + " passed, " + Check.wrong + " failed");
        if (Check.wrong != 0) {
            System.exit(1);
        }
    }
}
