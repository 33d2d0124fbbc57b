import java.util.Random;

/** Random programs and calls (of a fixed seed) to CallOpener and to the Model: all answers alike. */
public final class FuzzTest {
    private static int wrong = 0;
    private static long asked = 0;
    private static final int[] FAULTS = new int[7];
    private static int largest = 0;
    private static int undone = 0;
    private static int stops = 0;
    private static int largeBests = 0;
    private static int fullBests = 0;

    private CallOpener x = new CallOpener();
    private Model m = new Model();
    private final Random r;
    private String text = "";

    private FuzzTest(long seed) {
        r = new Random(seed);
    }

    private void due(String call, long got, long want) {
        asked++;
        if (got != want) {
            wrong++;
            if (wrong < 40) {
                System.out.println(call + " answered " + got + ", due is " + want + " [" + text + "]");
            }
        }
    }

    private void tell(String program) {
        text = program;
        StringBuilder padded = new StringBuilder(program);
        while (padded.length() % 20 != 0) {
            padded.append((char) r.nextInt(256));
        }
        for (int i = 0; i < padded.length(); i += 20) {
            int[] v = new int[5];
            for (int k = 0; k < 20; k++) {
                v[k / 4] = v[k / 4] << 8 | padded.charAt(i + k);
            }
            due("feed", x.feed(v[0], v[1], v[2], v[3], v[4]), m.feed(v[0], v[1], v[2], v[3], v[4]));
        }
        int answer = x.program(program.length());
        if (answer < -1) {
            FAULTS[-answer / 1000]++;
        }
        due("program", answer, m.program(program.length()));
    }

    // ---- programs

    private static final String[] NAMES = {"a", "b", "c", "d", "ab", "e", "x", "abcdef"};
    private String[] functions;
    private int[] parameters;

    private String name() {
        return NAMES[r.nextInt(r.nextInt(4) == 0 ? NAMES.length : 4)];
    }

    private String operand() {
        return r.nextInt(3) == 0 ? "" + r.nextInt(r.nextInt(5) == 0 ? 1000 : 4) : name();
    }

    private String lines(int many, int depth, int calls) {
        StringBuilder s = new StringBuilder();
        for (int i = 0; i < many; i++) {
            int kind = r.nextInt(10);
            if (kind < calls) {
                int f = r.nextInt(functions.length);
                s.append(name()).append("=").append(functions[f]).append("(");
                for (int k = 0; k < parameters[f]; k++) {
                    s.append(k > 0 ? "," : "").append(operand());
                }
                s.append(");");
            } else if (kind == 9 && depth < 4) {
                s.append("loop ").append(operand()).append("{").append(lines(r.nextInt(3), depth + 1, calls)).append("}");
            } else if (kind == 8 && depth < 4) {
                s.append("if ").append(operand()).append("{").append(lines(r.nextInt(3), depth + 1, calls)).append("}");
                if (r.nextInt(2) == 0) {
                    s.append("else{").append(lines(r.nextInt(3), depth + 1, calls)).append("}");
                }
            } else {
                s.append(name()).append("=").append(operand());
                if (r.nextInt(3) > 0) {
                    s.append("+-*<=".charAt(r.nextInt(5))).append(operand());
                }
                s.append(";");
            }
        }
        return s.toString();
    }

    /** Functions that count their first parameter down, so that recursion ends. */
    private String guarded(int f) {
        String p = "n";
        StringBuilder s = new StringBuilder("b=n-1;c=0<n;if c{");
        int many = 1 + r.nextInt(3);
        for (int i = 0; i < many; i++) {
            int g = r.nextInt(functions.length);
            s.append("a=").append(functions[g]).append("(");
            for (int k = 0; k < parameters[g]; k++) {
                s.append(k > 0 ? "," : "").append(k == 0 ? "b" : operand());
            }
            s.append(");");
        }
        return s.append("}").toString();
    }

    private String program() {
        int many = 1 + r.nextInt(r.nextInt(4) == 0 ? 8 : 4);
        functions = new String[many];
        parameters = new int[many];
        boolean counting = r.nextInt(2) == 0;
        int calls = r.nextInt(5);
        for (int f = 0; f < many; f++) {
            functions[f] = "" + (char) ('f' + f);
            parameters[f] = counting ? 1 + r.nextInt(3) : r.nextInt(4);
        }
        StringBuilder s = new StringBuilder();
        for (int f = 0; f < many; f++) {
            s.append("fun ").append(functions[f]).append("(");
            for (int k = 0; k < parameters[f]; k++) {
                s.append(k > 0 ? "," : "").append(counting && k == 0 ? "n" : k == 0 ? "a" : k == 1 ? "p" : "b" + "q");
            }
            s.append("){");
            if (counting && r.nextInt(4) > 0) {
                s.append(guarded(f));
            } else {
                s.append(lines(r.nextInt(5), 0, counting ? 0 : calls));
            }
            s.append(r.nextInt(3) > 0 ? "give " + operand() + ";" : "").append("}");
        }
        return s.length() > 400 ? program() : s.toString();
    }

    private static final String[] PIECES = {"(", ")", "{", "}", ",", ";", "=", "+", "-", "*", "<", " ", "\n", "fun ", "if ",
        "else", "loop ", "give ", "abcdefg", "1000", "999", "0999", "$", "x", "f(", "if 1{", "}else{", "a=1;", "a=f();",
        "q=r+s;", "t=u+v;", ",a", ",p", "fun f(){}", "\t", "A", "\u00e9", "\0"};

    private String broken(String s) {
        StringBuilder b = new StringBuilder(s);
        int changes = 1 + r.nextInt(3);
        for (int i = 0; i < changes; i++) {
            int at = r.nextInt(b.length() + 1);
            int how = r.nextInt(4);
            if (how == 0 && at < b.length()) {
                b.deleteCharAt(at);
            } else if (how == 1) {
                b.setLength(at);
            } else {
                String piece = PIECES[r.nextInt(PIECES.length)];
                int times = r.nextInt(6) == 0 ? 1 + r.nextInt(20) : 1;
                b.insert(at, piece.repeat(times));
            }
        }
        return b.length() > 400 ? b.substring(0, 400) : b.toString();
    }

    private String spaced(String s) {
        StringBuilder b = new StringBuilder();
        for (int i = 0; i < s.length(); i++) {
            b.append(s.charAt(i));
            boolean apart = !Character.isLetterOrDigit(s.charAt(i));
            if (apart && r.nextInt(6) == 0) {
                b.append(r.nextBoolean() ? ' ' : '\n');
            }
        }
        return b.length() > 400 ? s : b.toString();
    }

    // ---- asking

    private int near(int most) {
        return r.nextInt(most + 3) - 1;
    }

    private void askAboutProgram() {
        for (int w = -1; w <= 6; w++) {
            due("count " + w, x.count(w), m.count(w));
        }
        for (int f = -1; f <= m.funs.size(); f++) {
            for (int w = -1; w <= 16; w++) {
                due("function " + f + " " + w, x.function(f, w), m.function(f, w));
            }
        }
        for (int s = -1; s <= m.sites.size(); s++) {
            for (int w = -1; w <= 7; w++) {
                due("site " + s + " " + w, x.site(s, w), m.site(s, w));
            }
        }
    }

    private void change() {
        for (int i = 0; i < 3; i++) {
            int k = near(3);
            int v = r.nextInt(8) == 0 ? r.nextInt() : near(6);
            due("argument " + k + " " + v, x.argument(k, v), m.argument(k, v));
        }
        int k = near(4);
        int v = r.nextInt(3) == 0 ? near(5) : r.nextInt(520) - 5;
        due("set " + k + " " + v, x.set(k, v), m.set(k, v));
        for (int i = 0; i < 4; i++) {
            int f = near(m.funs.size());
            int stop = x.counted(f);
            stops += stop > 0 ? 1 : 0;
            due("counted " + f, stop, m.counted(f));
        }
        if (r.nextInt(6) == 0) {
            due("forget", x.forget(), m.forget());
        }
        if (r.nextInt(3) == 0) {
            int f = near(m.funs.size());
            int g = near(m.funs.size());
            due("swap " + f + " " + g, x.swap(f, g), m.swap(f, g));
        }
    }

    private void askAboutRuns(int f) {
        for (int w = -1; w <= 5; w++) {
            due("run " + f + " " + w, x.run(f, w), m.run(f, w));
            due("after " + f + " " + w, x.after(f, w), m.after(f, w));
        }
        due("saved " + f, x.saved(f), m.saved(f));
        for (int w = -1; w <= 6; w++) {
            due("folded " + f + " " + w, x.folded(f, w), m.folded(f, w));
        }
    }

    private void askAboutTree(int f) {
        for (int w = -1; w <= 7; w++) {
            due("tree " + f + " " + w, x.tree(f, w), m.tree(f, w));
        }
        largest = Math.max(largest, x.tree(f, 0));
        undone += x.tree(f, 2) > 0 ? 1 : 0;
        due("gain " + f, x.gain(f, false), m.gain(f, false));
        due("gain all " + f, x.gain(f, true), m.gain(f, true));
        int nodes = Math.max(0, x.tree(f, 0));
        for (int i = 0; i < 4; i++) {
            int n = i == 0 ? near(nodes) : r.nextInt(nodes + 1);
            for (int w = -1; w <= 6; w++) {
                due("node " + f + " " + n + " " + w, x.node(f, n, w), m.node(f, n, w));
            }
            for (int w = -1; w <= 4; w++) {
                due("worth " + f + " " + n + " " + w, x.worth(f, n, w), m.worth(f, n, w));
            }
            int c = near(Math.max(0, x.tree(f, 6)));
            for (int w = -1; w <= 3; w++) {
                due("left " + f + " " + c + " " + w, x.left(f, c, w), m.left(f, c, w));
            }
        }
        int s = near(m.sites.size());
        due("opened " + f + " " + s, x.opened(f, s), m.opened(f, s));
    }

    private void askAboutResult(int f) {
        for (int w = -1; w <= 4; w++) {
            due("result " + f + " " + w, x.result(f, w), m.result(f, w));
        }
        int lines = Math.max(0, x.result(f, 0));
        for (int i = 0; i < 6; i++) {
            int n = near(lines);
            for (int w = -1; w <= 8; w++) {
                due("line " + f + " " + n + " " + w, x.line(f, n, w), m.line(f, n, w));
            }
        }
    }

    private void askWhatMightBe(int f) {
        int k = near(4);
        int v = r.nextInt(3) == 0 ? near(5) : r.nextInt(520) - 5;
        int w = near(7);
        due("would " + f + " " + k + " " + v + " " + w, x.would(f, k, v, w), m.would(f, k, v, w));
        long many = x.best(f, 0, 2);
        due("best many " + f, many, m.best(f, 0, 2));
        largeBests += many > Model.MOST_TRIED ? 1 : 0;
        fullBests += many == 32 ? 1 : 0;
        int room = r.nextInt(4) == 0 ? r.nextInt(310) - 5 : r.nextInt(60);
        for (int what = -1; what <= 3; what++) {
            due("best " + f + " " + room + " " + what, x.best(f, room, what), m.best(f, room, what));
        }
    }

    private void askAll() {
        int f = near(m.funs.size());
        if (r.nextInt(2) == 0) {
            f = 0;
        }
        askAboutTree(f);
        askAboutResult(f);
        askAboutRuns(f);
        askWhatMightBe(f);
    }

    private void makeRoom() {
        int budget = 200 + r.nextInt(101);
        due("set 0", x.set(0, budget), m.set(0, budget));
        int recursion = r.nextInt(4);
        due("set 2", x.set(2, recursion), m.set(2, recursion));
        int rate = r.nextInt(3) * 20;
        due("set 3", x.set(3, rate), m.set(3, rate));
    }

    private int wild() {
        int[] all = {Integer.MIN_VALUE, Integer.MAX_VALUE, -1, 0, 1, 2, 7, 8, 9, 16, 60, 300, 400, r.nextInt()};
        return all[r.nextInt(all.length)];
    }

    /** Numbers from anywhere: none may make the machine throw. */
    private void askWildly() {
        int a = wild();
        int b = r.nextBoolean() ? wild() : r.nextInt(4);
        int c = wild();
        int f = r.nextInt(3) == 0 ? wild() : 0;
        due("function " + f + " " + a, x.function(f, a), m.function(f, a));
        due("site " + f + " " + a, x.site(f, a), m.site(f, a));
        due("count " + a, x.count(a), m.count(a));
        due("program " + a, x.program(a), m.program(a));
        due("argument " + b + " " + c, x.argument(b, c), m.argument(b, c));
        due("run " + f + " " + b, x.run(f, b), m.run(f, b));
        due("counted " + a, x.counted(a), m.counted(a));
        due("set " + b + " " + c, x.set(b, c), m.set(b, c));
        due("tree " + f + " " + b, x.tree(f, b), m.tree(f, b));
        due("gain " + a, x.gain(a, true), m.gain(a, true));
        due("node " + f + " " + a + " " + b, x.node(f, a, b), m.node(f, a, b));
        due("worth " + f + " " + a + " " + b, x.worth(f, a, b), m.worth(f, a, b));
        due("opened " + f + " " + a, x.opened(f, a), m.opened(f, a));
        due("result " + f + " " + b, x.result(f, b), m.result(f, b));
        due("line " + f + " " + a + " " + b, x.line(f, a, b), m.line(f, a, b));
        due("after " + f + " " + b, x.after(f, b), m.after(f, b));
        due("saved " + a, x.saved(a), m.saved(a));
        due("folded " + f + " " + b, x.folded(f, b), m.folded(f, b));
        due("would " + f + " " + b + " " + c + " " + a, x.would(f, b, c, a), m.would(f, b, c, a));
        due("left " + f + " " + a + " " + b, x.left(f, a, b), m.left(f, a, b));
        due("swap " + a + " " + c, x.swap(a, c), m.swap(a, c));
        due("best " + f + " " + a + " " + b, x.best(f, a, b), m.best(f, a, b));
    }

    private void play() {
        if (r.nextInt(2) == 0) {
            makeRoom();
        }
        String s = program();
        tell(r.nextInt(2) == 0 ? spaced(s) : s);
        askAboutProgram();
        for (int round = 0; round < 4; round++) {
            change();
            askAll();
            askWildly();
        }
        for (int i = 0; i < 10; i++) {
            tell(broken(program()));
        }
        askAboutProgram();
        askAll();
    }

    public static void main(String[] args) {
        int plays = args.length > 0 ? Integer.parseInt(args[0]) : 1500;
        long seed = args.length > 1 ? Long.parseLong(args[1]) : 1;
        for (int i = 0; i < plays; i++) {
            new FuzzTest(seed * 1000003 + i).play();
        }
        System.out.println("FuzzTest: " + asked + " answers, " + wrong + " wrong; faults by number "
            + java.util.Arrays.toString(FAULTS) + ", largest tree " + largest + ", trees with undone ones " + undone
            + ", stops " + stops + ", bests of more than 14 calls " + largeBests + ", of 32 " + fullBests);
        if (wrong != 0) {
            System.exit(1);
        }
    }
}
