/** Collects the calls whose answers are not the ones that are due. */
final class Due {
    private int wrong = 0;
    private int asked = 0;

    void is(String call, long got, long want) {
        asked++;
        if (got != want) {
            wrong++;
            System.out.println(call + " answered " + got + ", due is " + want);
        }
    }

    void is(String call, boolean got, boolean want) {
        is(call, got ? 1L : 0L, want ? 1L : 0L);
    }

    /** Every answer in the two looks must be the same; names the first that is not. */
    void same(String what, int[] got, int[] want) {
        asked++;
        for (int i = 0; i < want.length; i++) {
            if (got[i] != want[i]) {
                wrong++;
                System.out.println(what + ": " + Look.NAMES.get(i) + " is " + got[i] + ", due is " + want[i]);
                return;
            }
        }
    }

    /** Only the named answers may differ between the two looks. */
    void onlyChanged(String what, int[] got, int[] before, String... names) {
        int[] want = before.clone();
        for (String name : names) {
            int i = Look.NAMES.indexOf(name);
            want[i] = got[i];
        }
        same(what, got, want);
    }

    boolean anyWrong() {
        return wrong != 0;
    }

    void finish() {
        System.out.println(wrong == 0 ? "all " + asked + " answers are as due" : wrong + " answers are not as due");
        if (asked == 0 || wrong != 0) {
            System.exit(1);
        }
    }
}
