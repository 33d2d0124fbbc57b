/** Counts answers that are not as due, and tells texts to a CallOpener. */
final class Check {
    private static int asked = 0;
    private static int wrong = 0;

    private Check() {
    }

    static void due(String call, long got, long want) {
        asked++;
        if (got != want) {
            wrong++;
            System.out.println(call + " answered " + got + ", due is " + want);
        }
    }

    /** Answers of one call for what = 0, 1, .. */
    static void dueAll(String call, java.util.function.IntUnaryOperator ask, long... wants) {
        for (int what = 0; what < wants.length; what++) {
            due(call + " what " + what, ask.applyAsInt(what), wants[what]);
        }
    }

    static void dueLongs(String call, java.util.function.IntToLongFunction ask, long... wants) {
        for (int what = 0; what < wants.length; what++) {
            due(call + " what " + what, ask.applyAsLong(what), wants[what]);
        }
    }

    static void feed(CallOpener x, String text) {
        for (int i = 0; i < text.length(); i += 20) {
            int[] v = new int[5];
            for (int k = 0; k < 20; k++) {
                int c = i + k < text.length() ? text.charAt(i + k) : 'z';
                v[k / 4] = v[k / 4] << 8 | c;
            }
            x.feed(v[0], v[1], v[2], v[3], v[4]);
        }
    }

    static int tell(CallOpener x, String text) {
        feed(x, text);
        return x.program(text.length());
    }

    static CallOpener with(String text) {
        CallOpener x = new CallOpener();
        if (tell(x, text) < 0) {
            due("program [" + text + "]", -1, 0);
        }
        return x;
    }

    static void dueFault(String text, int number, int place) {
        due("program [" + text + "]", tell(new CallOpener(), text), -1000 * number - place);
    }

    static void dueFunctions(String text, int many) {
        due("program [" + text + "]", tell(new CallOpener(), text), many);
    }

    static void end(String name) {
        System.out.println(name + ": " + asked + " answers, " + wrong + " wrong");
        if (wrong != 0) {
            System.exit(1);
        }
    }
}
