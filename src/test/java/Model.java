import java.util.ArrayList;
import java.util.Arrays;
import java.util.HashSet;
import java.util.List;
import java.util.Set;

/**
 * The document once more, in the plainest way (trees of objects, recursion, every set tried), to
 * compare CallOpener with. It answers calls of the same names.
 */
final class Model {
    static final class Fault extends RuntimeException {
        final int number;
        final int place;

        Fault(int number, int place) {
            super(null, null, false, false);
            this.number = number;
            this.place = place;
        }
    }

    static final class Stopped extends RuntimeException {
        final int how;

        Stopped(int how) {
            super(null, null, false, false);
            this.how = how;
        }
    }

    static final class Token {
        String text;
        int place;

        Token(String text, int place) {
            this.text = text;
            this.place = place;
        }

        boolean isWord() {
            return !text.isEmpty() && text.charAt(0) >= 'a' && text.charAt(0) <= 'z';
        }

        boolean isNumber() {
            return !text.isEmpty() && text.charAt(0) >= '0' && text.charAt(0) <= '9';
        }
    }

    static final class Line {
        int kind;
        int target = -2;
        List<Integer> operands = new ArrayList<>();
        Site site;
        List<Line> then = new ArrayList<>();
        List<Line> otherwise;
        int number;
    }

    static final class Site {
        int number;
        Fun in;
        Fun to;
        String calledName;
        int place;
        Line line;
        int loops;
        int ifs;
        int count;
    }

    static final class Fun {
        String name;
        int parameters;
        List<String> variables = new ArrayList<>();
        List<Line> body = new ArrayList<>();
        List<Site> sites = new ArrayList<>();
        int lines;
        int entries;
        Integer given;

        int adds() {
            return lines - (given == null ? 0 : 1) + variables.size();
        }
    }

    static final class Node {
        Site site;
        Fun fun;
        Node above;
        int depth;
        List<Integer> path = new ArrayList<>();
        long heat;
        long worth;
        long gain;
        int order;
        boolean opened;
        boolean there;
        boolean barred;
        List<Node> calls = new ArrayList<>();

        List<Node> chain() {
            List<Node> all = new ArrayList<>();
            all.add(this);
            for (Node n : calls) {
                if (n.there) {
                    all.addAll(n.chain());
                }
            }
            return all;
        }

        long chainGain() {
            return chain().stream().mapToLong(n -> n.gain).sum();
        }

        int chainAdds() {
            return chain().stream().filter(n -> n.above != null).mapToInt(n -> n.fun.adds()).sum();
        }
    }

    static final Set<String> WORDS = new HashSet<>(Arrays.asList("fun", "if", "else", "loop", "give"));

    List<Fun> funs = new ArrayList<>();
    List<Site> sites = new ArrayList<>();
    List<Line> allLines = new ArrayList<>();
    StringBuilder tape = new StringBuilder();
    int[] arguments = new int[3];
    int[] settings = {100, 10, 1, 100};

    // ---- reading

    List<Token> tokens;
    int at;
    List<Fun> newFuns;
    List<Site> newSites;
    List<Line> newLines;

    static List<Token> cut(String s) {
        List<Token> all = new ArrayList<>();
        int i = 0;
        while (i < s.length()) {
            char c = s.charAt(i);
            int from = i;
            if (c == ' ' || c == '\n') {
                i++;
                continue;
            }
            if (c >= 'a' && c <= 'z') {
                while (i < s.length() && s.charAt(i) >= 'a' && s.charAt(i) <= 'z') {
                    i++;
                }
            } else if (c >= '0' && c <= '9') {
                while (i < s.length() && s.charAt(i) >= '0' && s.charAt(i) <= '9') {
                    i++;
                }
            } else {
                i++;
            }
            all.add(new Token(s.substring(from, i), from));
        }
        all.add(new Token("", s.length()));
        return all;
    }

    Token here() {
        return tokens.get(at);
    }

    boolean is(String text) {
        return here().text.equals(text);
    }

    Fault fault(int number) {
        return new Fault(number, here().place);
    }

    void need(String text) {
        if (!is(text)) {
            throw fault(1);
        }
        at++;
    }

    String needName() {
        Token t = here();
        if (!t.isWord() || WORDS.contains(t.text)) {
            throw fault(1);
        }
        if (t.text.length() > 6) {
            throw fault(2);
        }
        return t.text;
    }

    int variable(Fun f, String name) {
        int v = f.variables.indexOf(name);
        if (v >= 0) {
            return v;
        }
        if (f.variables.size() == 8) {
            throw fault(4);
        }
        f.variables.add(name);
        return f.variables.size() - 1;
    }

    int operand(Fun f) {
        Token t = here();
        int o;
        if (t.isNumber()) {
            if (new java.math.BigInteger(t.text).compareTo(java.math.BigInteger.valueOf(999)) > 0) {
                throw fault(3);
            }
            o = Integer.parseInt(t.text);
        } else {
            o = -10 - variable(f, needName());
        }
        at++;
        return o;
    }

    void readText(String text) {
        tokens = cut(text);
        at = 0;
        newFuns = new ArrayList<>();
        newSites = new ArrayList<>();
        newLines = new ArrayList<>();
        while (!is("")) {
            if (!is("fun")) {
                throw fault(1);
            }
            if (newFuns.size() == 8) {
                throw fault(4);
            }
            at++;
            Fun f = new Fun();
            f.name = needName();
            for (Fun g : newFuns) {
                if (g.name.equals(f.name)) {
                    throw fault(5);
                }
            }
            newFuns.add(f);
            at++;
            need("(");
            if (!is(")")) {
                parameter(f);
                while (is(",")) {
                    at++;
                    parameter(f);
                }
            }
            need(")");
            f.parameters = f.variables.size();
            int from = newLines.size();
            f.body = block(f, 0, 0, 0);
            f.lines = newLines.size() - from;
        }
        for (Site s : newSites) {
            for (Fun f : newFuns) {
                if (f.name.equals(s.calledName)) {
                    s.to = f;
                }
            }
            if (s.to == null || s.to.parameters != s.line.operands.size()) {
                throw new Fault(6, s.place);
            }
        }
    }

    void parameter(Fun f) {
        String name = needName();
        if (f.variables.size() == 3) {
            throw fault(4);
        }
        if (f.variables.contains(name)) {
            throw fault(5);
        }
        f.variables.add(name);
        at++;
    }

    List<Line> block(Fun f, int within, int loops, int ifs) {
        if (!is("{")) {
            throw fault(1);
        }
        if (within == 5) {
            throw fault(4);
        }
        at++;
        List<Line> lines = new ArrayList<>();
        boolean gave = false;
        while (!is("}")) {
            if (gave || is("give") && within != 0) {
                throw fault(1);
            }
            gave = is("give");
            lines.add(oneLine(f, within, loops, ifs));
        }
        at++;
        return lines;
    }

    Line oneLine(Fun f, int within, int loops, int ifs) {
        boolean isHead = is("if") || is("loop") || is("give");
        if (!isHead) {
            needName();
        }
        if (newLines.size() == 60) {
            throw fault(4);
        }
        Line l = new Line();
        l.number = newLines.size();
        newLines.add(l);
        String head = here().text;
        if (!isHead) {
            put(f, l, loops, ifs);
            return l;
        }
        at++;
        l.operands.add(operand(f));
        if (head.equals("give")) {
            l.kind = 9;
            f.given = l.operands.get(0);
            need(";");
        } else if (head.equals("loop")) {
            l.kind = 8;
            l.then = block(f, within + 1, loops + 1, ifs);
        } else {
            l.kind = 7;
            l.then = block(f, within + 1, loops, ifs + 1);
            if (is("else")) {
                at++;
                l.otherwise = block(f, within + 1, loops, ifs + 1);
            }
        }
        return l;
    }

    void put(Fun f, Line l, int loops, int ifs) {
        l.target = variable(f, needName());
        at++;
        need("=");
        if (here().isWord() && tokens.get(at + 1).text.equals("(")) {
            Site s = new Site();
            s.calledName = needName();
            if (newSites.size() == 16) {
                throw fault(4);
            }
            s.number = newSites.size();
            s.in = f;
            s.place = here().place;
            s.line = l;
            s.loops = loops;
            s.ifs = ifs;
            l.site = s;
            l.kind = 6;
            newSites.add(s);
            f.sites.add(s);
            at += 2;
            if (!is(")")) {
                l.operands.add(operand(f));
                while (is(",")) {
                    at++;
                    l.operands.add(operand(f));
                }
            }
            need(")");
        } else {
            l.operands.add(operand(f));
            int kind = is("") ? -1 : "+-*<=".indexOf(here().text);
            if (kind >= 0) {
                l.kind = kind + 1;
                at++;
                l.operands.add(operand(f));
            }
        }
        need(";");
    }

    int feed(int a, int b, int c, int d, int e) {
        if (tape.length() > 460) {
            return -1;
        }
        for (int v : new int[] {a, b, c, d, e}) {
            for (int k = 3; k >= 0; k--) {
                tape.append((char) (v >>> (8 * k) & 255));
            }
        }
        return tape.length();
    }

    int program(int n) {
        if (n < 0 || n > 400 || n > tape.length()) {
            return -1;
        }
        String text = tape.substring(0, n);
        tape.setLength(0);
        try {
            readText(text);
        } catch (Fault x) {
            return -1000 * x.number - x.place;
        }
        funs = newFuns;
        sites = newSites;
        allLines = newLines;
        return funs.size();
    }

    // ---- asking

    int count(int what) {
        switch (what) {
            case 0: return funs.size();
            case 1: return allLines.size();
            case 2: return sites.size();
            case 3: return tape.length();
            case 4: return funs.stream().mapToInt(f -> f.entries).sum();
            case 5: return sites.stream().mapToInt(s -> s.count).sum();
            default: return -1;
        }
    }

    boolean has(int f) {
        return f >= 0 && f < funs.size();
    }

    void reach(Fun f, Set<Fun> seen) {
        for (Site s : f.sites) {
            if (seen.add(s.to)) {
                reach(s.to, seen);
            }
        }
    }

    int function(int f, int what) {
        if (!has(f) || what < 0) {
            return -1;
        }
        Fun g = funs.get(f);
        switch (what) {
            case 0: return g.parameters;
            case 1: return g.variables.size();
            case 2: return g.lines;
            case 3: return g.sites.size();
            case 4: return g.entries;
            case 5: return g.adds();
            case 6: return g.given == null ? 0 : 1;
            case 7:
                Set<Fun> seen = new HashSet<>();
                reach(g, seen);
                return seen.contains(g) ? 1 : 0;
            case 8: return g.name.length();
            default: return what - 9 < g.name.length() ? g.name.charAt(what - 9) : -1;
        }
    }

    int site(int s, int what) {
        if (s < 0 || s >= sites.size()) {
            return -1;
        }
        Site t = sites.get(s);
        int[] all = {funs.indexOf(t.in), funs.indexOf(t.to), t.count, t.loops, t.ifs, t.line.number, t.line.target};
        return what < 0 || what > 6 ? -1 : all[what];
    }

    int argument(int k, int v) {
        if (k < 0 || k > 2) {
            return Integer.MIN_VALUE;
        }
        int was = arguments[k];
        arguments[k] = v;
        return was;
    }

    // ---- runs

    int steps;
    int callsDone;
    int within;
    int most;
    List<Fun> entered;
    List<Site> done;

    void step(int n) {
        if (steps + n > 3000) {
            throw new Stopped(1);
        }
        steps += n;
    }

    static int value(int operand, int[] vars) {
        return operand <= -10 ? vars[-10 - operand] : operand;
    }

    static int work(int kind, int a, int b) {
        return kind == 1 ? a + b : kind == 2 ? a - b : kind == 3 ? a * b : kind == 4 ? (a < b ? 1 : 0)
            : kind == 5 ? (a == b ? 1 : 0) : a;
    }

    int enter(List<Line> body, int variables, int[] parameters) {
        within++;
        most = Math.max(most, within);
        int[] vars = Arrays.copyOf(parameters, variables);
        int given = doLines(body, vars);
        within--;
        return given;
    }

    int doLines(List<Line> lines, int[] vars) {
        for (Line l : lines) {
            step(1);
            int first = l.operands.isEmpty() ? 0 : value(l.operands.get(0), vars);
            switch (l.kind) {
                case 6:
                    step(settings[1]);
                    if (within == 24) {
                        throw new Stopped(2);
                    }
                    callsDone++;
                    done.add(l.site);
                    entered.add(l.site.to);
                    int[] parameters = l.operands.stream().mapToInt(o -> value(o, vars)).toArray();
                    vars[l.target] = enter(l.site.to.body, l.site.to.variables.size(), parameters);
                    break;
                case 7:
                    if (first != 0) {
                        doLines(l.then, vars);
                    } else if (l.otherwise != null) {
                        doLines(l.otherwise, vars);
                    }
                    break;
                case 8:
                    for (int i = 0; i < first && !l.then.isEmpty(); i++) {
                        doLines(l.then, vars);
                    }
                    break;
                case 9:
                    return first;
                default:
                    vars[l.target] = work(l.kind, first, l.kind == 0 ? 0 : value(l.operands.get(1), vars));
                    break;
            }
        }
        return 0;
    }

    int[] go(List<Line> body, int variables, int parameters) {
        steps = 0;
        callsDone = 0;
        within = 0;
        most = 0;
        entered = new ArrayList<>();
        done = new ArrayList<>();
        int stop = 0;
        int given = 0;
        try {
            given = enter(body, variables, Arrays.copyOf(arguments, parameters));
        } catch (Stopped x) {
            stop = x.how;
        }
        return new int[] {stop, given, steps, callsDone, most};
    }

    int[] goFunction(int f) {
        Fun g = funs.get(f);
        return go(g.body, g.variables.size(), g.parameters);
    }

    int run(int f, int what) {
        return !has(f) || what < 0 || what > 4 ? Integer.MIN_VALUE : goFunction(f)[what];
    }

    int counted(int f) {
        if (!has(f)) {
            return -1;
        }
        int stop = goFunction(f)[0];
        if (stop == 0) {
            funs.get(f).entries++;
            entered.forEach(g -> g.entries++);
            done.forEach(s -> s.count++);
        }
        return stop;
    }

    int forget() {
        int were = count(4);
        funs.forEach(f -> f.entries = 0);
        sites.forEach(s -> s.count = 0);
        return were;
    }

    static boolean maySet(int k, int v) {
        int[] least = {0, 1, 0, 0};
        int[] most = {300, 50, 3, 500};
        return k >= 0 && k < 4 && v >= least[k] && v <= most[k];
    }

    int set(int k, int v) {
        if (!maySet(k, v)) {
            return -1;
        }
        int was = settings[k];
        settings[k] = v;
        return was;
    }

    // ---- the tree

    Node root;
    List<Node> everOpened;
    int undone;
    int chains;

    Node callNode(Node above, int place) {
        Node n = new Node();
        n.site = above.fun.sites.get(place);
        n.fun = n.site.to;
        n.above = above;
        n.depth = above.depth + 1;
        n.path.addAll(above.path);
        n.path.add(place);
        n.heat = above.fun.entries == 0 ? 0 : above.heat * n.site.count / above.fun.entries;
        long numbers = n.site.line.operands.stream().filter(o -> o >= 0).count();
        n.worth = n.heat * (settings[1] + 2 * numbers) * 64 / Math.max(1, n.fun.adds());
        n.gain = n.heat * (settings[1] - n.fun.variables.size());
        int stands = 0;
        for (Node a = above; a != null; a = a.above) {
            stands += a.fun == n.fun ? 1 : 0;
        }
        n.barred = stands > settings[2];
        return n;
    }

    void giveCalls(Node n) {
        for (int k = 0; k < n.fun.sites.size(); k++) {
            n.calls.add(callNode(n, k));
        }
    }

    Node newRoot(int f) {
        Node n = new Node();
        n.fun = funs.get(f);
        n.heat = n.fun.entries;
        n.there = true;
        giveCalls(n);
        return n;
    }

    static int comparePaths(List<Integer> a, List<Integer> b) {
        for (int k = 0; k < Math.min(a.size(), b.size()); k++) {
            if (!a.get(k).equals(b.get(k))) {
                return Integer.compare(a.get(k), b.get(k));
            }
        }
        return Integer.compare(a.size(), b.size());
    }

    int size() {
        return root.fun.lines + root.chainAdds();
    }

    void open(List<Node> frontier, int turn) {
        Node pick = null;
        for (Node n : frontier) {
            if (n.heat < 1 || n.barred || size() + n.fun.adds() > settings[0]) {
                continue;
            }
            if (pick == null || ahead(n, pick)) {
                pick = n;
            }
        }
        if (pick == null) {
            return;
        }
        frontier.remove(pick);
        pick.there = true;
        pick.opened = true;
        pick.order = turn;
        giveCalls(pick);
        everOpened.add(pick);
        frontier.addAll(pick.calls);
        open(frontier, turn + 1);
    }

    static boolean ahead(Node a, Node b) {
        if (a.worth != b.worth) {
            return a.worth > b.worth;
        }
        if (a.depth != b.depth) {
            return a.depth < b.depth;
        }
        return comparePaths(a.path, b.path) < 0;
    }

    void undo(Node n) {
        for (Node c : n.calls) {
            if (c.there) {
                undo(c);
            }
        }
        if (n.above != null && n.chainGain() * 100 < (long) settings[3] * n.chainAdds()) {
            chains++;
            undone += n.chain().size();
            n.there = false;
        }
    }

    void grow(int f) {
        root = newRoot(f);
        everOpened = new ArrayList<>();
        undone = 0;
        chains = 0;
        open(new ArrayList<>(root.calls), 1);
        undo(root);
    }

    List<Node> leftCalls(Node n) {
        List<Node> all = new ArrayList<>();
        for (Node c : n.calls) {
            if (c.there) {
                all.addAll(leftCalls(c));
            } else {
                all.add(c);
            }
        }
        return all;
    }

    int tree(int f, int what) {
        if (!has(f) || what < 0 || what > 6) {
            return -1;
        }
        grow(f);
        List<Node> nodes = root.chain();
        int deepest = nodes.stream().mapToInt(n -> n.depth).max().getAsInt();
        return new int[] {nodes.size(), everOpened.size(), undone, chains, size(), deepest,
            leftCalls(root).size()}[what];
    }

    long gain(int f, boolean all) {
        if (!has(f)) {
            return Long.MIN_VALUE;
        }
        grow(f);
        return all ? everOpened.stream().mapToLong(n -> n.gain).sum() : root.chainGain();
    }

    int node(int f, int i, int what) {
        if (!has(f) || what < 0 || what > 5) {
            return -1;
        }
        grow(f);
        List<Node> nodes = root.chain();
        if (i < 0 || i >= nodes.size()) {
            return -1;
        }
        Node n = nodes.get(i);
        return new int[] {n.site == null ? -2 : n.site.number, funs.indexOf(n.fun),
            n.above == null ? -2 : nodes.indexOf(n.above), n.depth, n.order, n.chain().size()}[what];
    }

    long worth(int f, int i, int what) {
        if (!has(f) || what < 0 || what > 3) {
            return Long.MIN_VALUE;
        }
        grow(f);
        List<Node> nodes = root.chain();
        if (i < 0 || i >= nodes.size()) {
            return Long.MIN_VALUE;
        }
        Node n = nodes.get(i);
        return new long[] {n.heat, n.worth, n.gain, n.chainGain()}[what];
    }

    int opened(int f, int s) {
        if (!has(f) || s < 0 || s >= sites.size()) {
            return -1;
        }
        grow(f);
        return (int) root.chain().stream().filter(n -> n.site == sites.get(s)).count();
    }

    int left(int f, int i, int what) {
        if (!has(f) || what < 0 || what > 2) {
            return -1;
        }
        grow(f);
        List<Node> all = leftCalls(root);
        if (i < 0 || i >= all.size()) {
            return -1;
        }
        Node n = all.get(i);
        int why = n.opened ? 4 : n.heat < 1 ? 1 : n.barred ? 2 : 3;
        return new int[] {n.site.number, why, root.chain().indexOf(n.above)}[what];
    }

    // ---- the result

    List<Line> resultBody;
    int resultVariables;

    static int moved(int operand, int base) {
        return operand <= -10 ? operand - base : operand;
    }

    static Line copyTo(int target, int operand) {
        Line l = new Line();
        l.target = target;
        l.operands.add(operand);
        return l;
    }

    List<Line> rewrite(List<Line> lines, Node n, int base) {
        List<Line> all = new ArrayList<>();
        for (Line l : lines) {
            if (l.kind == 9 && n.above != null) {
                continue;
            }
            if (l.kind == 6) {
                Node c = n.calls.get(n.fun.sites.indexOf(l.site));
                if (c.there) {
                    int own = resultVariables;
                    resultVariables += c.fun.variables.size();
                    for (int v = 0; v < c.fun.variables.size(); v++) {
                        all.add(copyTo(own + v, v < c.fun.parameters ? moved(l.operands.get(v), base) : 0));
                    }
                    all.addAll(rewrite(c.fun.body, c, own));
                    all.add(copyTo(l.target + base, c.fun.given == null ? 0 : moved(c.fun.given, own)));
                    continue;
                }
            }
            Line m = new Line();
            m.kind = l.kind;
            m.site = l.site;
            m.target = l.target < 0 ? -2 : l.target + base;
            l.operands.forEach(o -> m.operands.add(moved(o, base)));
            m.then = rewrite(l.then, n, base);
            m.otherwise = l.otherwise == null ? null : rewrite(l.otherwise, n, base);
            all.add(m);
        }
        return all;
    }

    void write(int f) {
        grow(f);
        resultVariables = root.fun.variables.size();
        resultBody = rewrite(root.fun.body, root, 0);
    }

    static List<Line> flat(List<Line> lines, int depth, List<Integer> depths) {
        List<Line> all = new ArrayList<>();
        for (Line l : lines) {
            all.add(l);
            depths.add(depth);
            all.addAll(flat(l.then, depth + 1, depths));
            if (l.otherwise != null) {
                all.addAll(flat(l.otherwise, depth + 1, depths));
            }
        }
        return all;
    }

    int result(int f, int what) {
        if (!has(f) || what < 0 || what > 3) {
            return -1;
        }
        write(f);
        List<Line> all = flat(resultBody, 0, new ArrayList<>());
        int calls = (int) all.stream().filter(l -> l.kind == 6).count();
        return new int[] {all.size(), resultVariables, calls, root.fun.parameters}[what];
    }

    int line(int f, int i, int what) {
        if (!has(f) || what < 0 || what > 7) {
            return -1;
        }
        write(f);
        List<Integer> depths = new ArrayList<>();
        List<Line> all = flat(resultBody, 0, depths);
        if (i < 0 || i >= all.size()) {
            return -1;
        }
        Line l = all.get(i);
        int[] operands = {-2, -2, -2};
        for (int k = 0; k < l.operands.size(); k++) {
            operands[k] = l.operands.get(k);
        }
        return new int[] {l.kind, l.target, operands[0], operands[1], operands[2],
            l.site == null ? -2 : funs.indexOf(l.site.to), depths.get(i), l.otherwise != null ? 1 : 0}[what];
    }

    int[] goResult(int f) {
        write(f);
        return go(resultBody, resultVariables, root.fun.parameters);
    }

    int after(int f, int what) {
        return !has(f) || what < 0 || what > 4 ? Integer.MIN_VALUE : goResult(f)[what];
    }

    int saved(int f) {
        if (!has(f)) {
            return Integer.MIN_VALUE;
        }
        int[] before = goFunction(f);
        int[] behind = goResult(f);
        return before[0] != 0 || behind[0] != 0 ? Integer.MIN_VALUE : before[2] - behind[2];
    }

    // ---- known numbers: null is what is not known

    int foldedLines;
    int decided;
    int never;
    Integer givenKnown;

    static Integer knownValue(int operand, Integer[] known) {
        return operand <= -10 ? known[-10 - operand] : Integer.valueOf(operand);
    }

    void unknowTargets(List<Line> lines, Integer[] known) {
        for (Line l : flat(lines, 0, new ArrayList<>())) {
            if (l.target >= 0) {
                known[l.target] = null;
            }
        }
    }

    void know(List<Line> lines, Integer[] known) {
        for (Line l : lines) {
            Integer first = l.operands.isEmpty() ? null : knownValue(l.operands.get(0), known);
            List<Line> otherwise = l.otherwise == null ? new ArrayList<>() : l.otherwise;
            if (l.kind == 6) {
                known[l.target] = null;
            } else if (l.kind == 0) {
                known[l.target] = first;
            } else if (l.kind < 6) {
                Integer second = knownValue(l.operands.get(1), known);
                boolean both = first != null && second != null;
                known[l.target] = both ? Integer.valueOf(work(l.kind, first, second)) : null;
                foldedLines += both ? 1 : 0;
            } else if (l.kind == 7 && first != null) {
                decided++;
                know(first != 0 ? l.then : otherwise, known);
                never += flat(first != 0 ? otherwise : l.then, 0, new ArrayList<>()).size();
            } else if (l.kind == 7) {
                Integer[] other = known.clone();
                know(l.then, known);
                know(otherwise, other);
                for (int v = 0; v < known.length; v++) {
                    known[v] = known[v] != null && known[v].equals(other[v]) ? known[v] : null;
                }
            } else if (l.kind == 8 && first != null && first <= 0) {
                never += flat(l.then, 0, new ArrayList<>()).size();
            } else if (l.kind == 8) {
                unknowTargets(l.then, known);
                know(l.then, known);
                unknowTargets(l.then, known);
            } else {
                givenKnown = first;
            }
        }
    }

    int folded(int f, int what) {
        if (!has(f) || what < 0 || what > 5) {
            return Integer.MIN_VALUE;
        }
        write(f);
        foldedLines = 0;
        decided = 0;
        never = 0;
        givenKnown = 0;
        Integer[] known = new Integer[resultVariables];
        for (int v = root.fun.parameters; v < resultVariables; v++) {
            known[v] = 0;
        }
        know(resultBody, known);
        int atEnd = (int) Arrays.stream(known).filter(v -> v != null).count();
        return new int[] {foldedLines, decided, never, givenKnown != null ? 1 : 0,
            givenKnown != null ? givenKnown : 0, atEnd}[what];
    }

    // ---- what might be

    long bestGain;
    int bestAdds;

    List<Node> mightOpen(int f) {
        Node top = newRoot(f);
        List<Node> found = new ArrayList<>();
        List<Node> level = List.of(top);
        while (!level.isEmpty() && found.size() < 32) {
            List<Node> next = new ArrayList<>();
            for (Node n : level) {
                for (Node c : n.calls) {
                    if (c.heat >= 1 && !c.barred) {
                        giveCalls(c);
                        next.add(c);
                    }
                }
            }
            next.sort((a, b) -> comparePaths(a.path, b.path));
            found.addAll(next);
            level = next;
        }
        return found.size() > 32 ? new ArrayList<>(found.subList(0, 32)) : found;
    }

    /** Every set is tried, where there are few. */
    void tryAll(List<Node> all, int k, Set<Node> in, int room) {
        if (k == all.size()) {
            long gain = in.stream().mapToLong(n -> n.gain).sum();
            int adds = in.stream().mapToInt(n -> n.fun.adds()).sum();
            if (adds <= room && (gain > bestGain || gain == bestGain && adds < bestAdds)) {
                bestGain = gain;
                bestAdds = adds;
            }
            return;
        }
        tryAll(all, k + 1, in, room);
        Node n = all.get(k);
        if (n.above.above == null || in.contains(n.above)) {
            in.add(n);
            tryAll(all, k + 1, in, room);
            in.remove(n);
        }
    }

    long best(int f, int room, int what) {
        if (!has(f) || room < 0 || room > 300 || what < 0 || what > 2) {
            return Long.MIN_VALUE;
        }
        List<Node> all = mightOpen(f);
        if (what == 2) {
            return all.size();
        }
        bestGain = 0;
        bestAdds = 0;
        if (all.size() <= MOST_TRIED) {
            tryAll(all, 0, new HashSet<>(), room);
        } else {
            long[] gains = gainsBelow(all, all.get(0).above);
            for (int adds = 0; adds <= room; adds++) {
                if (gains[adds] > bestGain) {
                    bestGain = gains[adds];
                    bestAdds = adds;
                }
            }
        }
        return what == 0 ? bestGain : bestAdds;
    }

    static final int MOST_TRIED = 14;
    static final long IMPOSSIBLE = Long.MIN_VALUE / 4;

    /** For ADDS of exactly 0, 1, .. 300: the greatest GAIN of sets of calls below a node, where many are to be tried. */
    static long[] gainsBelow(List<Node> all, Node above) {
        long[] gains = new long[301];
        Arrays.fill(gains, IMPOSSIBLE);
        gains[0] = 0;
        for (Node n : all) {
            if (n.above == above) {
                gains = either(gains, gainsBelow(all, n), n.fun.adds(), n.gain);
            }
        }
        return gains;
    }

    /** Those ahead alone, or with one more and what is best below that. */
    static long[] either(long[] ahead, long[] below, int adds, long gain) {
        long[] both = ahead.clone();
        for (int a = 0; a <= 300; a++) {
            for (int b = 0; a + b + adds <= 300; b++) {
                if (ahead[a] > IMPOSSIBLE && below[b] > IMPOSSIBLE) {
                    both[a + b + adds] = Math.max(both[a + b + adds], ahead[a] + below[b] + gain);
                }
            }
        }
        return both;
    }

    int would(int f, int k, int v, int what) {
        if (!has(f) || !maySet(k, v)) {
            return -1;
        }
        int was = set(k, v);
        int answer = tree(f, what);
        set(k, was);
        return answer;
    }

    int swap(int f, int g) {
        if (!has(f) || !has(g)) {
            return -1;
        }
        java.util.Collections.swap(funs, f, g);
        return f == g ? 0 : 1;
    }
}
