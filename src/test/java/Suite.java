/** Runs every test of the project. */
public final class Suite {
    private Suite() {
    }

    public static void main(String[] args) throws Exception {
        FittingTests.all();
        TellingTests.all();
        HoursTests.all();
        PlansTests.all();
        BooksTests.all();
        RefusalTests.all();
        EdgesOfHer.all();
        EdgesOfSeams.all();
        EdgesOfPlans.all();
        EdgesOfBooks.all();
        FaceTests.all();
        LanguageTests.all();
        ReadmeTests.all();
        PlanRuns.all();
        ModelRuns.all();
        System.out.println(Due.passed + " passed, " + Due.failed + " failed");
        if (Due.failed != 0) {
            System.exit(1);
        }
    }
}
