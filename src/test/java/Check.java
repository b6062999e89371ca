/** Counts and prints the answers that are not as due. */
final class Check {
    private static int made = 0;
    private static int wrong = 0;

    private Check() {
    }

    static void due(String what, long got, long want) {
        made++;
        if (got != want) {
            wrong++;
            System.out.println(what + " answered " + got + ", due is " + want);
        }
    }

    static void due(String what, boolean got, boolean want) {
        due(what, got ? 1 : 0, want ? 1 : 0);
    }

    static void dueBytes(String what, byte[] got, byte[] want) {
        due(what + ": length", got.length, want.length);
        for (int i = 0; i < got.length && i < want.length; i++) {
            due(what + ": byte " + i, got[i] & 255, want[i] & 255);
        }
    }

    static void finish() {
        System.out.println(made + " answers, " + wrong + " not as due");
        if (wrong != 0) {
            System.exit(1);
        }
    }
}
