import java.util.function.IntToLongFunction;
import java.util.function.IntUnaryOperator;

/** Counts answers that are not as due, and tells texts to a CallOpener. */
final class Check {
    private static int asked = 0;
    private static int wrong = 0;
    private static int sentences = 0;
    private static String sentence = "";

    private Check() {
    }

    /** The sentence of the document that the next answers stand for; it is told where one is wrong. */
    static void about(String promise, String words) {
        sentences++;
        sentence = " -- " + promise + ": \"" + words + "\"";
    }

    static void due(String call, long got, long want) {
        asked++;
        if (got != want) {
            wrong++;
            System.out.println(call + " answered " + got + ", due is " + want + sentence);
        }
    }

    /** Answers of one call for what = 0, 1, .. */
    static void dueAll(String call, IntUnaryOperator ask, long... wants) {
        for (int what = 0; what < wants.length; what++) {
            due(call + " what " + what, ask.applyAsInt(what), wants[what]);
        }
    }

    static void dueLongs(String call, IntToLongFunction ask, long... wants) {
        for (int what = 0; what < wants.length; what++) {
            due(call + " what " + what, ask.applyAsLong(what), wants[what]);
        }
    }

    /** Numbers from least to most have answers, those just outside and far away have the refusal alone. */
    static void dueRange(String call, IntToLongFunction ask, int least, int most, long refusal) {
        int[] outside = {least - 1, most + 1, Integer.MIN_VALUE, Integer.MAX_VALUE};
        for (int what : outside) {
            due(call + " of " + what, ask.applyAsLong(what), refusal);
        }
        int[] inside = {least, most};
        for (int what : inside) {
            due(call + " of " + what + " is refused", ask.applyAsLong(what) == refusal ? 1 : 0, 0);
        }
    }

    static void feed(CallOpener x, String text) {
        for (int i = 0; i < text.length(); i += 20) {
            int[] v = new int[5];
            for (int k = 0; k < 20; k++) {
                int c = i + k < text.length() ? text.charAt(i + k) : 'z';
                v[k / 4] = v[k / 4] << 8 | c;
            }
            x.feed(v[0], v[1], v[2], v[3], v[4]);
        }
    }

    static int tell(CallOpener x, String text) {
        feed(x, text);
        return x.program(text.length());
    }

    static CallOpener with(String text) {
        CallOpener x = new CallOpener();
        if (tell(x, text) < 0) {
            due("program [" + text + "]", -1, 0);
        }
        return x;
    }

    /** A program of which function 0 was run once on an argument, and counted. */
    static CallOpener countedWith(String text, int argument) {
        CallOpener x = with(text);
        x.argument(0, argument);
        due("counted [" + text + "]", x.counted(0), 0);
        return x;
    }

    static void dueFault(String text, int number, int place) {
        due("program [" + text + "]", tell(new CallOpener(), text), -1000 * number - place);
    }

    static void dueFunctions(String text, int many) {
        due("program [" + text + "]", tell(new CallOpener(), text), many);
    }

    static void end(String name) {
        String told = sentences == 0 ? "" : sentences + " sentences, ";
        System.out.println(name + ": " + told + asked + " answers, " + wrong + " wrong");
        if (wrong != 0) {
            System.exit(1);
        }
    }
}
