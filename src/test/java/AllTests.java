/** All tests of the project; its last line tells how many passed and failed. */
public final class AllTests {
    private AllTests() {
    }

    public static void main(String[] arguments) {
        TellingTests.run();
        LawTests.run();
        HandTests.run();
        NumberTests.run();
        SumTests.run();
        PrefixTests.run();
        SmallFormTests.run();
        AskedTests.run();
        PlansTests.run();
        RandomRuns.run();
        RoomTests.run();
        TellingEdges.run();
        HandEdges.run();
        NumberEdges.run();
        SumEdges.run();
        SmallEdges.run();
        AskedEdges.run();
        ReadmeTests.run();
        if (!Checks.end()) {
            System.exit(1);
        }
    }
}
