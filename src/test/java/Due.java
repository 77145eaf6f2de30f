/** Collects the calls whose answers are not the ones that are due. */
final class Due {
    private int wrong = 0;
    private int asked = 0;

    void is(String call, long got, long want) {
        asked++;
        if (got != want) {
            wrong++;
            System.out.println(call + " answered " + got + ", due is " + want);
        }
    }

    void is(String call, boolean got, boolean want) {
        is(call, got ? 1L : 0L, want ? 1L : 0L);
    }

    void same(String what, String got, String want) {
        asked++;
        if (!got.equals(want)) {
            wrong++;
            System.out.println(what + ": " + firstDifference(got, want));
        }
    }

    boolean anyWrong() {
        return wrong != 0;
    }

    void finish() {
        System.out.println(wrong == 0 ? "all " + asked + " answers are as due" : wrong + " answers are not as due");
        if (asked == 0 || wrong != 0) {
            System.exit(1);
        }
    }

    private static String firstDifference(String got, String want) {
        String[] g = got.split("\n");
        String[] w = want.split("\n");
        for (int i = 0; i < g.length && i < w.length; i++) {
            if (!g[i].equals(w[i])) {
                return "is " + g[i] + ", due is " + w[i];
            }
        }
        return "the lengths differ";
    }
}
