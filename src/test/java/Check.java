/** Counts the answers of one test program and tells the wrong ones. */
final class Check {
    private int right = 0;
    private int wrong = 0;

    void due(String call, long got, long want) {
        if (got == want) {
            right++;
        } else {
            wrong++;
            System.out.println(call + " answered " + got + ", due is " + want);
        }
    }

    void holds(String fact, boolean isSo) {
        due(fact, isSo ? 1 : 0, 1);
    }

    void finish(String name) {
        System.out.println(name + ": " + right + " answers as due, " + wrong + " not as due");
        if (wrong != 0) {
            System.exit(1);
        }
    }
}
