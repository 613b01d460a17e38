/** Promises 1 to 8: a new object, steps and their measures. */
public final class StepsTest {
    private static final Due due = new Due("steps");

    public static void main(String[] args) {
        aNewObject();
        due.end();
    }

    private static void aNewObject() {
        HollowSteps x = new HollowSteps();
        for (int what = 0; what <= 7; what++) {
            due.is("new: count(" + what + ")", x.count(what), 0);
        }
    }
}
