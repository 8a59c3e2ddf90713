/** All tests of the project; ends with exit code 1 if one fails. Its arguments are the file of the class and README.md. */
public final class AllTests {
    private AllTests() {
    }

    public static void main(String[] args) throws Exception {
        FaceTest.run(args.length > 0 ? args[0] : "src/main/java/GrowsByHalf.java");
        ReadmeTest.run(args.length > 1 ? args[1] : "README.md");
        PromiseTest.run();
        EdgesOfTexts.run();
        EdgesOfPeople.run();
        EdgesOfTales.run();
        EdgesOfWhatItWas.run();
        EdgesOfChains.run();
        EdgesOfAll.run();
        RefusalTest.run();
        LongRunTest.run();
        DearestTest.run();
        DeepChainTest.run();
        RandomRunTest.run();
        System.out.println(Check.passed + " passed, " + Check.failed + " failed");
        if (Check.failed > 0) {
            System.exit(1);
        }
    }
}
