/** Every boundary case that the document names, each as a case of its own; each promise has some. */
public final class BoundariesTest {
    private static final Class<?>[] CASES = {
        NodeCases.class, RunCases.class, ArrayCases.class, MoveCases.class, NumberCases.class, AnswerCases.class,
    };

    public static void main(String[] args) {
        Due due = new Due("BoundariesTest");
        int[] ofPromise = new int[17];
        int all = 0;
        for (Class<?> cases : CASES) {
            int[] found = Case.runAll(due, cases);
            for (int promise = 1; promise <= 16; promise++) {
                ofPromise[promise] += found[promise];
                all += found[promise];
            }
        }
        for (int promise = 1; promise <= 16; promise++) {
            due.holds("promise " + promise + " has cases", ofPromise[promise] > 0);
        }
        System.out.println("BoundariesTest: " + all + " cases");
        due.end();
    }
}
