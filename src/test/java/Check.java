/** Counts the calls of one test program whose answers are not as due. */
final class Check {
    private int calls;
    private int wrong;
    private String promise = "";

    void promise(String told) {
        promise = told;
    }

    void due(String call, long got, long want) {
        calls++;
        if (got == want) return;
        wrong++;
        System.out.println(promise + ": " + call + " answered " + got + ", due is " + want);
    }

    void finish() {
        System.out.println(calls + " answers looked at, " + wrong + " wrong");
        if (wrong != 0 || calls == 0) System.exit(1);
    }
}
