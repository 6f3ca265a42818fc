/** Counts answers that are not the ones that are due. */
final class Check {
    private static int wrong = 0;
    private static int seen = 0;
    private static String sentence = "";

    private Check() {
    }

    /** The words of the document that the calls from here on are held to: they stand ahead of what is wrong. */
    static void sentence(int promise, String words) {
        sentence = "promise " + promise + ", \"" + words + "\": ";
    }

    static void is(String call, long got, long due) {
        seen++;
        if (got != due) {
            wrong++;
            System.out.println(sentence + call + " answered " + got + ", due is " + due);
        }
    }

    static void is(String call, boolean got, boolean due) {
        is(call, got ? 1L : 0L, due ? 1L : 0L);
    }

    static boolean isClean() {
        return wrong == 0;
    }

    /** What get answers of a cell. */
    static long cell(int time, int value) {
        return 4294967296L * time + Integer.toUnsignedLong(value);
    }

    /** What found answers of a cell. */
    static long cell(int row, int column, int time, int value) {
        return 4294967296L * (80000L * row + 10000L * column + time) + Integer.toUnsignedLong(value);
    }

    static void end() {
        System.out.println(seen + " answers looked at, " + wrong + " not as due");
        if (wrong != 0 || seen == 0) {
            System.exit(1);
        }
    }
}
