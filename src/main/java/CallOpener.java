import java.util.Arrays;

/** A shop that opens calls; ../shared/DOC.md says what each call promises. */
public final class CallOpener {
    public static final int NONE = -1;

    private static final int NO_NUMBER = Integer.MIN_VALUE;
    private static final long NO_LONG = Long.MIN_VALUE;

    private static final int MOST_TAPE = 480;
    private static final int MOST_TEXT = 400;
    private static final int MOST_LETTERS = 6;
    private static final int MOST_NUMBER = 999;
    private static final int MOST_FUNCTIONS = 8;
    private static final int MOST_PARAMETERS = 3;
    private static final int MOST_VARIABLES = 8;
    private static final int MOST_LINES = 60;
    private static final int MOST_SITES = 16;
    private static final int MOST_BRACES = 5;
    private static final int MOST_STEPS = 3000;
    private static final int MOST_WITHIN = 24;
    private static final int MOST_ROOM = 300;
    private static final int MOST_CHOSEN = 32;

    private static final int BUDGET = 0;
    private static final int COST = 1;
    private static final int RECURSION = 2;
    private static final int RATE = 3;
    private static final int[] SETTING_LEAST = {0, 1, 0, 0};
    private static final int[] SETTING_MOST = {300, 50, 3, 500};
    private static final int[] SETTING_FIRST = {100, 10, 1, 100};

    private static final int COPY = 0;
    private static final int PLUS = 1;
    private static final int MINUS = 2;
    private static final int TIMES = 3;
    private static final int LESS = 4;
    private static final int LIKE = 5;
    private static final int CALL = 6;
    private static final int IF = 7;
    private static final int LOOP = 8;
    private static final int GIVE = 9;

    /** What an answer says of a thing that a line, a node or a function has not. */
    private static final int LACKING = -2;
    /** VARIABLE v as an operand is VARIABLE_AT - v, a NUMBER is itself. */
    private static final int VARIABLE_AT = -10;

    private final int[] tape = new int[MOST_TAPE];
    private final int[] arguments = new int[MOST_PARAMETERS];
    private final int[] settings = SETTING_FIRST.clone();
    private final int[] otherSettings = SETTING_FIRST.clone();
    private final Profile profile = new Profile();
    private final Reader reader;
    private final Machine machine;
    private final Tree grown;
    private final Result written;
    private final Known known = new Known();
    private final Best chooser;
    private Program told;
    private Program spare;
    private int taped;
    /** The ROOT that the tree and the result at hand are of; NONE when they are out of date. */
    private int grownOf = NONE;
    private int writtenOf = NONE;

    public CallOpener() {
        Program first = new Program();
        told = first;
        spare = new Program();
        reader = new Reader(first);
        machine = new Machine(first);
        grown = new Tree(first);
        written = new Result(first);
        chooser = new Best(first);
    }

    public int feed(int a, int b, int c, int d, int e) {
        if (taped + 20 > MOST_TAPE) {
            return NONE;
        }
        putBytes(a);
        putBytes(b);
        putBytes(c);
        putBytes(d);
        putBytes(e);
        return taped;
    }

    public int program(int n) {
        if (n < 0 || n > MOST_TEXT || n > taped) {
            return NONE;
        }
        taped = 0;
        int fault = reader.readProgram(tape, n, spare);
        if (fault != 0) {
            return fault;
        }
        Program old = told;
        told = spare;
        spare = old;
        profile.clear();
        outdate();
        return told.functions;
    }

    public int count(int what) {
        switch (what) {
            case 0: return told.functions;
            case 1: return told.lines.size;
            case 2: return told.sites;
            case 3: return taped;
            case 4: return profile.allEntries();
            case 5: return profile.allCounts();
            default: return NONE;
        }
    }

    public int function(int f, int what) {
        if (!isFunction(f)) {
            return NONE;
        }
        switch (what) {
            case 0: return told.parameters[f];
            case 1: return told.variables[f];
            case 2: return told.lineCount[f];
            case 3: return told.siteCount[f];
            case 4: return profile.entries[f];
            case 5: return told.adds[f];
            case 6: return told.gives(f) ? 1 : 0;
            case 7: return told.comesToItself(f) ? 1 : 0;
            case 8: return told.nameLength[f];
            default: return told.letter(f, what);
        }
    }

    public int site(int s, int what) {
        if (!isSite(s)) {
            return NONE;
        }
        int at = told.siteLine[s];
        switch (what) {
            case 0: return told.siteIn[s];
            case 1: return told.siteTo[s];
            case 2: return profile.counts[s];
            case 3: return told.lines.howManyAround(at, LOOP);
            case 4: return told.lines.howManyAround(at, IF);
            case 5: return at;
            case 6: return told.lines.target[at];
            default: return NONE;
        }
    }

    public int argument(int k, int v) {
        if (k < 0 || k >= MOST_PARAMETERS) {
            return NO_NUMBER;
        }
        int was = arguments[k];
        arguments[k] = v;
        return was;
    }

    public int run(int f, int what) {
        if (!isFunction(f) || what < 0 || what >= Machine.ANSWERS) {
            return NO_NUMBER;
        }
        machine.runFunction(told, f, arguments, settings[COST]);
        return machine.answers[what];
    }

    public int counted(int f) {
        if (!isFunction(f)) {
            return NONE;
        }
        machine.runFunction(told, f, arguments, settings[COST]);
        int stop = machine.answers[Machine.STOP];
        if (stop == 0) {
            profile.add(machine.entered, machine.done);
            outdate();
        }
        return stop;
    }

    public int forget() {
        int were = profile.allEntries();
        profile.clear();
        outdate();
        return were;
    }

    public int set(int k, int v) {
        if (!isSetting(k, v)) {
            return NONE;
        }
        int was = settings[k];
        settings[k] = v;
        outdate();
        return was;
    }

    // ---- the tree

    public int tree(int f, int what) {
        return growTree(f) ? grown.answer(what) : NONE;
    }

    public long gain(int f, boolean all) {
        if (!growTree(f)) {
            return NO_LONG;
        }
        return all ? grown.openedGain : grown.calls[0].chainGain;
    }

    public int node(int f, int i, int what) {
        if (!growTree(f) || i < 0 || i >= grown.nodeCount) {
            return NONE;
        }
        Call c = grown.calls[grown.nodes[i]];
        switch (what) {
            case 0: return c.site;
            case 1: return c.function;
            case 2: return c.owner < 0 ? LACKING : grown.calls[c.owner].number;
            case 3: return c.depth;
            case 4: return c.openedAs;
            case 5: return c.chainNodes;
            default: return NONE;
        }
    }

    public long worth(int f, int i, int what) {
        if (!growTree(f) || i < 0 || i >= grown.nodeCount) {
            return NO_LONG;
        }
        Call c = grown.calls[grown.nodes[i]];
        switch (what) {
            case 0: return c.heat;
            case 1: return c.worth;
            case 2: return c.gain;
            case 3: return c.chainGain;
            default: return NO_LONG;
        }
    }

    public int opened(int f, int s) {
        if (!isSite(s) || !growTree(f)) {
            return NONE;
        }
        int often = 0;
        for (int i = 1; i < grown.nodeCount; i++) {
            if (grown.calls[grown.nodes[i]].site == s) {
                often++;
            }
        }
        return often;
    }

    // ---- the result

    public int result(int f, int what) {
        if (!growTree(f)) {
            return NONE;
        }
        writeResult();
        switch (what) {
            case 0: return written.lines.size;
            case 1: return written.variables;
            case 2: return grown.leftCount;
            case 3: return written.parameters;
            default: return NONE;
        }
    }

    public int line(int f, int i, int what) {
        if (!growTree(f)) {
            return NONE;
        }
        writeResult();
        if (i < 0 || i >= written.lines.size) {
            return NONE;
        }
        Lines lines = written.lines;
        switch (what) {
            case 0: return lines.kind[i];
            case 1: return lines.target[i];
            case 2: return lines.first[i];
            case 3: return lines.second[i];
            case 4: return lines.third[i];
            case 5: return isSite(lines.site[i]) ? told.siteTo[lines.site[i]] : LACKING;
            case 6: return lines.depth[i];
            case 7: return lines.withElse[i];
            default: return NONE;
        }
    }

    public int after(int f, int what) {
        if (what < 0 || what >= Machine.ANSWERS || !growTree(f)) {
            return NO_NUMBER;
        }
        writeResult();
        machine.runResult(told, written, arguments, settings[COST]);
        return machine.answers[what];
    }

    public int saved(int f) {
        if (!growTree(f)) {
            return NO_NUMBER;
        }
        writeResult();
        machine.runFunction(told, f, arguments, settings[COST]);
        int stop = machine.answers[Machine.STOP];
        int before = machine.answers[Machine.STEPS];
        machine.runResult(told, written, arguments, settings[COST]);
        if (stop != 0 || machine.answers[Machine.STOP] != 0) {
            return NO_NUMBER;
        }
        return before - machine.answers[Machine.STEPS];
    }

    public int folded(int f, int what) {
        if (what < 0 || what >= Known.ANSWERS || !growTree(f)) {
            return NO_NUMBER;
        }
        writeResult();
        known.goThrough(written.lines, written.variables, written.parameters);
        return known.answers[what];
    }

    // ---- what might be

    public long best(int f, int room, int what) {
        if (!isFunction(f) || room < 0 || room > MOST_ROOM) {
            return NO_LONG;
        }
        chooser.collect(told, profile, settings, f);
        switch (what) {
            case 0: return chooser.greatestGain(room);
            case 1: return chooser.leastAdds(room);
            case 2: return chooser.found;
            default: return NO_LONG;
        }
    }

    public int would(int f, int k, int v, int what) {
        if (!isFunction(f) || !isSetting(k, v)) {
            return NONE;
        }
        System.arraycopy(settings, 0, otherSettings, 0, settings.length);
        otherSettings[k] = v;
        grown.grow(told, profile, otherSettings, f);
        outdate();
        return grown.answer(what);
    }

    public int left(int f, int i, int what) {
        if (!growTree(f) || i < 0 || i >= grown.leftCount) {
            return NONE;
        }
        Call c = grown.calls[grown.left[i]];
        switch (what) {
            case 0: return c.site;
            case 1: return c.whyLeft();
            case 2: return grown.calls[c.owner].number;
            default: return NONE;
        }
    }

    public int swap(int f, int g) {
        if (!isFunction(f) || !isFunction(g)) {
            return NONE;
        }
        if (f == g) {
            return 0;
        }
        told.changePlaces(f, g);
        exchange(profile.entries, f, g);
        outdate();
        return 1;
    }

    private void putBytes(int four) {
        for (int shift = 24; shift >= 0; shift -= 8) {
            tape[taped] = (four >>> shift) & 255;
            taped++;
        }
    }

    private boolean isFunction(int f) {
        return f >= 0 && f < told.functions;
    }

    private boolean isSite(int s) {
        return s >= 0 && s < told.sites;
    }

    private static boolean isSetting(int k, int v) {
        return k >= 0 && k < SETTING_MOST.length && v >= SETTING_LEAST[k] && v <= SETTING_MOST[k];
    }

    private void outdate() {
        grownOf = NONE;
        writtenOf = NONE;
    }

    /** The tree of f is at hand, or there is no such FUNCTION. */
    private boolean growTree(int f) {
        if (!isFunction(f)) {
            return false;
        }
        if (grownOf != f) {
            grown.grow(told, profile, settings, f);
            grownOf = f;
            writtenOf = NONE;
        }
        return true;
    }

    /** The result of the tree at hand is at hand, too. */
    private void writeResult() {
        if (writtenOf != grownOf) {
            written.write(told, grown);
            writtenOf = grownOf;
        }
    }

    private static void exchange(int[] row, int f, int g) {
        int was = row[f];
        row[f] = row[g];
        row[g] = was;
    }

    private static boolean isVariable(int operand) {
        return operand <= VARIABLE_AT;
    }

    private static int workOut(int kind, int a, int b) {
        switch (kind) {
            case PLUS: return a + b;
            case MINUS: return a - b;
            case TIMES: return a * b;
            case LESS: return a < b ? 1 : 0;
            case LIKE: return a == b ? 1 : 0;
            default: return a;
        }
    }

    /** LINES in the order in which they begin, of a PROGRAM or of a RESULT. */
    private static final class Lines {
        final int[] kind;
        final int[] target;
        final int[] first;
        final int[] second;
        final int[] third;
        final int[] site;
        final int[] depth;
        /** 1 in the BLOCK behind else, of the line around. */
        final int[] branch;
        final int[] withElse;
        /** Behind the first BLOCK, where the second one begins. */
        final int[] middle;
        /** Behind all that is in the line. */
        final int[] end;
        private final int[] around;
        /** The last line of each depth: it is the one around those a level deeper. */
        private final int[] lastAt;
        int size;

        Lines(int room) {
            kind = new int[room];
            target = new int[room];
            first = new int[room];
            second = new int[room];
            third = new int[room];
            site = new int[room];
            depth = new int[room];
            branch = new int[room];
            withElse = new int[room];
            middle = new int[room];
            end = new int[room];
            around = new int[room];
            lastAt = new int[room];
        }

        /** A new line's number, NONE when there is no room for it. */
        int add(int newKind, int newDepth, int newBranch) {
            if (size >= kind.length || newDepth < 0 || newDepth > size) {
                return NONE;
            }
            int at = size;
            size++;
            kind[at] = newKind;
            target[at] = LACKING;
            first[at] = LACKING;
            second[at] = LACKING;
            third[at] = LACKING;
            site[at] = LACKING;
            depth[at] = newDepth;
            branch[at] = newBranch;
            withElse[at] = 0;
            middle[at] = at + 1;
            end[at] = at + 1;
            around[at] = newDepth == 0 ? NONE : lastAt[newDepth - 1];
            lastAt[newDepth] = at;
            stretchAround(at);
            return at;
        }

        private void stretchAround(int at) {
            int in = at;
            for (int level = depth[at]; level > 0; level--) {
                int opener = around[in];
                if (branch[in] == 0) {
                    middle[opener] = at + 1;
                }
                end[opener] = at + 1;
                in = opener;
            }
        }

        int operand(int at, int k) {
            return k == 0 ? first[at] : k == 1 ? second[at] : third[at];
        }

        void putOperand(int at, int k, int operand) {
            if (k == 0) {
                first[at] = operand;
            } else if (k == 1) {
                second[at] = operand;
            } else if (k == 2) {
                third[at] = operand;
            }
        }

        int howManyAround(int at, int wanted) {
            int many = 0;
            int in = at;
            for (int level = depth[at]; level > 0; level--) {
                in = around[in];
                if (kind[in] == wanted) {
                    many++;
                }
            }
            return many;
        }
    }

    /** FUNCTIONS, SITES and LINES of a text without FAULT. */
    private static final class Program {
        private static final int LETTER_BITS = 5;

        int functions;
        int sites;
        /** NAMES as numbers, 5 bits a letter: six letters fit. */
        final int[] name = new int[MOST_FUNCTIONS];
        final int[] nameLength = new int[MOST_FUNCTIONS];
        final int[] parameters = new int[MOST_FUNCTIONS];
        final int[] variables = new int[MOST_FUNCTIONS];
        final int[] firstLine = new int[MOST_FUNCTIONS];
        final int[] lineCount = new int[MOST_FUNCTIONS];
        final int[] firstSite = new int[MOST_FUNCTIONS];
        final int[] siteCount = new int[MOST_FUNCTIONS];
        /** The OPERAND of give, LACKING without give. */
        final int[] given = new int[MOST_FUNCTIONS];
        final int[] adds = new int[MOST_FUNCTIONS];
        final int[] siteIn = new int[MOST_SITES];
        final int[] siteTo = new int[MOST_SITES];
        final int[] siteLine = new int[MOST_SITES];
        /** How many OPERANDS of a SITE are NUMBERS. */
        final int[] siteNumbers = new int[MOST_SITES];
        final Lines lines = new Lines(MOST_LINES);

        void clear() {
            functions = 0;
            sites = 0;
            lines.size = 0;
        }

        static int nameWith(int letters, int letter) {
            return letters << LETTER_BITS | letter - 'a' + 1;
        }

        int letter(int f, int what) {
            int behind = nameLength[f] - 1 - (what - 9);
            if (what < 9 || behind < 0) {
                return NONE;
            }
            return (name[f] >> behind * LETTER_BITS & 31) + 'a' - 1;
        }

        boolean gives(int f) {
            return given[f] != LACKING;
        }

        int functionNamed(int wanted) {
            for (int f = 0; f < functions; f++) {
                if (name[f] == wanted) {
                    return f;
                }
            }
            return NONE;
        }

        boolean comesToItself(int f) {
            int reached = calledBy(f);
            for (int turn = 0; turn < MOST_FUNCTIONS; turn++) {
                for (int g = 0; g < functions; g++) {
                    if ((reached >> g & 1) != 0) {
                        reached |= calledBy(g);
                    }
                }
            }
            return (reached >> f & 1) != 0;
        }

        private int calledBy(int f) {
            int mask = 0;
            for (int s = firstSite[f]; s < firstSite[f] + siteCount[f]; s++) {
                mask |= 1 << siteTo[s];
            }
            return mask;
        }

        void changePlaces(int f, int g) {
            exchange(name, f, g);
            exchange(nameLength, f, g);
            exchange(parameters, f, g);
            exchange(variables, f, g);
            exchange(firstLine, f, g);
            exchange(lineCount, f, g);
            exchange(firstSite, f, g);
            exchange(siteCount, f, g);
            exchange(given, f, g);
            exchange(adds, f, g);
            for (int s = 0; s < sites; s++) {
                siteIn[s] = exchanged(siteIn[s], f, g);
                siteTo[s] = exchanged(siteTo[s], f, g);
            }
        }

        private static int exchanged(int h, int f, int g) {
            return h == f ? g : h == g ? f : h;
        }
    }

    /** Reads a text to a PROGRAM, up to its first FAULT. */
    private static final class Reader {
        /** Sorts of tokens; a sign's sort is its byte. */
        private static final int END = -1;
        private static final int NAME = -2;
        private static final int LONG_WORD = -3;
        private static final int NUMBER = -4;
        private static final int WORD_FUN = -5;
        private static final int WORD_IF = -6;
        private static final int WORD_ELSE = -7;
        private static final int WORD_LOOP = -8;
        private static final int WORD_GIVE = -9;

        private static final int MISPLACED = 1;
        private static final int LONG_NAME = 2;
        private static final int LARGE_NUMBER = 3;
        private static final int TOO_MANY = 4;
        private static final int TOLD_ALREADY = 5;
        private static final int WRONG_CALL = 6;

        private final int[] sorts = new int[MOST_TEXT + 1];
        private final int[] starts = new int[MOST_TEXT + 1];
        /** A NUMBER itself, a NAME as a number. */
        private final int[] values = new int[MOST_TEXT + 1];
        private int tokens;
        /** The token at hand. */
        private int at;
        private int operand;
        private int fault;
        private int place;
        private Program into;
        private int variables;
        private final int[] variableNames = new int[MOST_VARIABLES];
        private final int[] calledNames = new int[MOST_SITES];
        private final int[] calledPlaces = new int[MOST_SITES];
        private final int[] calledOperands = new int[MOST_SITES];
        /** BLOCKS that are open, and of each from 1 on its line and its branch there. */
        private int depth;
        private final int[] openers = new int[MOST_BRACES];
        private final int[] branches = new int[MOST_BRACES];

        Reader(Program first) {
            into = first;
        }

        /** 0, or the FAULT as it is answered. */
        int readProgram(int[] text, int size, Program program) {
            into = program;
            into.clear();
            fault = 0;
            place = 0;
            at = 0;
            takeTokens(text, Math.min(size, MOST_TEXT));
            boolean well = true;
            for (int i = 0; i <= MOST_FUNCTIONS && well && sorts[at] != END; i++) {
                well = readFunctionHead() && readLines();
            }
            if (well) {
                findCalled();
            }
            return fault == 0 ? 0 : -1000 * fault - place;
        }

        private void takeTokens(int[] text, int size) {
            tokens = 0;
            int from = 0;
            for (int turn = 0; turn < size && from < size; turn++) {
                int c = text[from];
                starts[tokens] = from;
                if (isLetter(c)) {
                    from = takeWord(text, from, size);
                } else if (isDigit(c)) {
                    from = takeNumber(text, from, size);
                } else {
                    sorts[tokens] = c;
                    tokens += c == ' ' || c == '\n' ? 0 : 1;
                    from++;
                }
            }
            starts[tokens] = size;
            sorts[tokens] = END;
        }

        private int takeWord(int[] text, int from, int size) {
            int name = 0;
            int stop = from;
            while (stop < size && isLetter(text[stop])) {
                name = Program.nameWith(name, text[stop]);
                stop++;
            }
            values[tokens] = name;
            sorts[tokens] = stop - from > MOST_LETTERS ? LONG_WORD : sortOfWord(text, from, stop);
            tokens++;
            return stop;
        }

        private static int sortOfWord(int[] text, int from, int stop) {
            if (isWord("fun", text, from, stop)) {
                return WORD_FUN;
            }
            if (isWord("if", text, from, stop)) {
                return WORD_IF;
            }
            if (isWord("else", text, from, stop)) {
                return WORD_ELSE;
            }
            if (isWord("loop", text, from, stop)) {
                return WORD_LOOP;
            }
            return isWord("give", text, from, stop) ? WORD_GIVE : NAME;
        }

        private static boolean isWord(String word, int[] text, int from, int stop) {
            if (stop - from != word.length()) {
                return false;
            }
            for (int k = 0; k < word.length(); k++) {
                if (text[from + k] != word.charAt(k)) {
                    return false;
                }
            }
            return true;
        }

        /** A number that is too large stays so, however many digits it has. */
        private int takeNumber(int[] text, int from, int size) {
            int number = 0;
            int stop = from;
            while (stop < size && isDigit(text[stop])) {
                number = Math.min(number * 10 + text[stop] - '0', MOST_NUMBER + 1);
                stop++;
            }
            values[tokens] = number;
            sorts[tokens] = NUMBER;
            tokens++;
            return stop;
        }

        private static boolean isLetter(int c) {
            return c >= 'a' && c <= 'z';
        }

        private static boolean isDigit(int c) {
            return c >= '0' && c <= '9';
        }

        /** Up to the sign { behind which the lines begin. */
        private boolean readFunctionHead() {
            if (sorts[at] != WORD_FUN) {
                return wrong(MISPLACED);
            }
            if (into.functions >= MOST_FUNCTIONS) {
                return wrong(TOO_MANY);
            }
            at++;
            if (sorts[at] != NAME) {
                return wrong(faultOfNoName());
            }
            if (into.functionNamed(values[at]) != NONE) {
                return wrong(TOLD_ALREADY);
            }
            int f = beginFunction();
            if (!takeSign('(') || !readParameters()) {
                return false;
            }
            into.parameters[f] = variables;
            return takeSign('{');
        }

        private int beginFunction() {
            int f = into.functions;
            into.functions++;
            into.name[f] = values[at];
            into.nameLength[f] = lengthOfName(values[at]);
            into.firstLine[f] = into.lines.size;
            into.firstSite[f] = into.sites;
            into.given[f] = LACKING;
            variables = 0;
            depth = 0;
            at++;
            return f;
        }

        private static int lengthOfName(int name) {
            int length = 0;
            for (int rest = name; rest > 0; rest >>= Program.LETTER_BITS) {
                length++;
            }
            return length;
        }

        private void endFunction() {
            int f = into.functions - 1;
            into.variables[f] = variables;
            into.lineCount[f] = into.lines.size - into.firstLine[f];
            into.siteCount[f] = into.sites - into.firstSite[f];
            into.adds[f] = into.lineCount[f] - (into.gives(f) ? 1 : 0) + variables;
            at++;
        }

        private boolean readParameters() {
            for (int i = 0; i <= MOST_PARAMETERS && sorts[at] != ')'; i++) {
                if (i > 0 && !takeSign(',') || !readParameter()) {
                    return false;
                }
            }
            return takeSign(')');
        }

        private boolean readParameter() {
            if (sorts[at] != NAME) {
                return wrong(faultOfNoName());
            }
            if (variables >= MOST_PARAMETERS) {
                return wrong(TOO_MANY);
            }
            int known = variables;
            if (variableHere() != known) {
                return wrong(TOLD_ALREADY);
            }
            at++;
            return true;
        }

        /** Up to the sign } that ends the function, and it too; each turn takes a token at least. */
        private boolean readLines() {
            for (int turn = 0; turn <= MOST_TEXT; turn++) {
                boolean closes = sorts[at] == '}';
                if (closes && depth == 0) {
                    endFunction();
                    return true;
                }
                if (closes ? !closeBlock() : !readLine()) {
                    return false;
                }
            }
            return wrong(MISPLACED);
        }

        private boolean closeBlock() {
            int opener = openers[depth];
            boolean mayElse = into.lines.kind[opener] == IF && branches[depth] == 0;
            depth--;
            at++;
            if (!mayElse || sorts[at] != WORD_ELSE) {
                return true;
            }
            into.lines.withElse[opener] = 1;
            at++;
            return openBlock(opener, 1);
        }

        private boolean openBlock(int opener, int branch) {
            if (sorts[at] != '{') {
                return wrong(MISPLACED);
            }
            if (depth + 1 >= MOST_BRACES) {
                return wrong(TOO_MANY);
            }
            at++;
            depth++;
            openers[depth] = opener;
            branches[depth] = branch;
            return true;
        }

        private boolean readLine() {
            switch (sorts[at]) {
                case WORD_IF: return readHead(IF);
                case WORD_LOOP: return readHead(LOOP);
                case WORD_GIVE: return readGive();
                case NAME: return readPut();
                default: return wrong(faultOfNoName());
            }
        }

        private int addLine(int kind) {
            return into.lines.add(kind, depth, depth == 0 ? 0 : branches[depth]);
        }

        private boolean readHead(int kind) {
            int line = addLine(kind);
            if (line == NONE) {
                return wrong(TOO_MANY);
            }
            at++;
            if (!readOperand()) {
                return false;
            }
            into.lines.first[line] = operand;
            return openBlock(line, 0);
        }

        private boolean readGive() {
            if (depth != 0) {
                return wrong(MISPLACED);
            }
            int line = addLine(GIVE);
            if (line == NONE) {
                return wrong(TOO_MANY);
            }
            at++;
            if (!readOperand()) {
                return false;
            }
            into.lines.first[line] = operand;
            into.given[into.functions - 1] = operand;
            return takeSign(';') && (sorts[at] == '}' || wrong(MISPLACED));
        }

        private boolean readPut() {
            int line = addLine(COPY);
            int variable = variableHere();
            if (line == NONE || variable == NONE) {
                return wrong(TOO_MANY);
            }
            into.lines.target[line] = variable;
            at++;
            if (!takeSign('=')) {
                return false;
            }
            return opensBehind() ? readCall(line) : readWork(line);
        }

        /** The NAME at hand is that of a FUNCTION called, if ( is behind it. */
        private boolean opensBehind() {
            return sorts[at] == NAME && sorts[at + 1] == '(';
        }

        private boolean readWork(int line) {
            if (!readOperand()) {
                return false;
            }
            into.lines.first[line] = operand;
            int kind = kindOfSign(sorts[at]);
            if (kind != COPY) {
                into.lines.kind[line] = kind;
                at++;
                if (!readOperand()) {
                    return false;
                }
                into.lines.second[line] = operand;
            }
            return takeSign(';');
        }

        private static int kindOfSign(int sign) {
            switch (sign) {
                case '+': return PLUS;
                case '-': return MINUS;
                case '*': return TIMES;
                case '<': return LESS;
                case '=': return LIKE;
                default: return COPY;
            }
        }

        private boolean readCall(int line) {
            int s = into.sites;
            if (s >= MOST_SITES) {
                return wrong(TOO_MANY);
            }
            beginSite(s, line);
            if (!takeSign('(')) {
                return false;
            }
            for (int k = 0; k <= MOST_TEXT && sorts[at] != ')'; k++) {
                if (k > 0 && !takeSign(',') || !readOperand()) {
                    return false;
                }
                into.lines.putOperand(line, k, operand);
                into.siteNumbers[s] += operand >= 0 ? 1 : 0;
                calledOperands[s] = k + 1;
            }
            return takeSign(')') && takeSign(';');
        }

        private void beginSite(int s, int line) {
            into.sites++;
            into.siteIn[s] = into.functions - 1;
            into.siteLine[s] = line;
            into.siteNumbers[s] = 0;
            into.lines.kind[line] = CALL;
            into.lines.site[line] = s;
            calledNames[s] = values[at];
            calledPlaces[s] = starts[at];
            calledOperands[s] = 0;
            at++;
        }

        private boolean readOperand() {
            if (sorts[at] == NUMBER) {
                if (values[at] > MOST_NUMBER) {
                    return wrong(LARGE_NUMBER);
                }
                operand = values[at];
            } else if (sorts[at] == NAME) {
                int variable = variableHere();
                if (variable == NONE) {
                    return wrong(TOO_MANY);
                }
                operand = VARIABLE_AT - variable;
            } else {
                return wrong(faultOfNoName());
            }
            at++;
            return true;
        }

        /** The VARIABLE at hand, a new one if its NAME is; NONE if that would be a ninth. */
        private int variableHere() {
            for (int v = 0; v < variables; v++) {
                if (variableNames[v] == values[at]) {
                    return v;
                }
            }
            if (variables >= MOST_VARIABLES) {
                return NONE;
            }
            variableNames[variables] = values[at];
            variables++;
            return variables - 1;
        }

        /** Functions may be told behind their calls, so this comes when all is read. */
        private void findCalled() {
            for (int s = 0; s < into.sites; s++) {
                int f = into.functionNamed(calledNames[s]);
                if (f == NONE || into.parameters[f] != calledOperands[s]) {
                    fault = WRONG_CALL;
                    place = calledPlaces[s];
                    return;
                }
                into.siteTo[s] = f;
            }
        }

        private boolean wrong(int number) {
            fault = number;
            place = starts[at];
            return false;
        }

        /** Of a token that is no NAME where one may stand. */
        private int faultOfNoName() {
            return sorts[at] == LONG_WORD ? LONG_NAME : MISPLACED;
        }

        private boolean takeSign(char sign) {
            if (sorts[at] != sign) {
                return wrong(MISPLACED);
            }
            at++;
            return true;
        }
    }

    /** THE PROFILE. */
    private static final class Profile {
        final int[] entries = new int[MOST_FUNCTIONS];
        final int[] counts = new int[MOST_SITES];

        void clear() {
            Arrays.fill(entries, 0);
            Arrays.fill(counts, 0);
        }

        void add(int[] entered, int[] done) {
            for (int f = 0; f < entries.length; f++) {
                entries[f] += entered[f];
            }
            for (int s = 0; s < counts.length; s++) {
                counts[s] += done[s];
            }
        }

        int allEntries() {
            return sum(entries);
        }

        int allCounts() {
            return sum(counts);
        }

        private static int sum(int[] row) {
            int all = 0;
            for (int k = 0; k < row.length; k++) {
                all += row[k];
            }
            return all;
        }

        /** HEAT of a CALL by the HEAT of its NODE, which is of f. */
        long heatOf(long heat, int f, int s) {
            return entries[f] == 0 ? 0 : heat * counts[s] / entries[f];
        }
    }

    /** Rows of four numbers, one on top of another. */
    private static final class Pile {
        final int[] a;
        final int[] b;
        final int[] c;
        final int[] d;
        int size;

        Pile(int room) {
            a = new int[room];
            b = new int[room];
            c = new int[room];
            d = new int[room];
        }

        boolean isFull() {
            return size >= a.length;
        }

        void push(int newA, int newB, int newC, int newD) {
            if (isFull()) {
                return;
            }
            a[size] = newA;
            b[size] = newB;
            c[size] = newC;
            d[size] = newD;
            size++;
        }
    }

    /** Does RUNS, of FUNCTIONS and of RESULTS. */
    private static final class Machine {
        static final int STOP = 0;
        static final int GIVEN = 1;
        static final int STEPS = 2;
        static final int CALLS = 3;
        static final int WITHIN = 4;
        static final int ANSWERS = 5;

        private static final int BY_STEPS = 1;
        private static final int BY_WITHIN = 2;
        /** 308 VARIABLES of a RESULT at most, 8 of each FUNCTION within; likewise blocks. */
        private static final int MOST_VALUES = 512;
        private static final int MOST_OPEN = 512;
        /** Each line begins at most one block, each turn of a loop has a line: far above what 3000 steps need. */
        private static final int MOST_TURNS = 100000;

        final int[] answers = new int[ANSWERS];
        final int[] entered = new int[MOST_FUNCTIONS];
        final int[] done = new int[MOST_SITES];
        private final int[] values = new int[MOST_VALUES];
        /** Blocks that are open: where each begins, turns left, the line behind, the limit around. */
        private final Pile blocks = new Pile(MOST_OPEN);
        /** Functions that wait: the line of their call, base, limit, floor. */
        private final Pile frames = new Pile(MOST_WITHIN);
        private Program program;
        private Lines code;
        private Lines outermost;
        private int cost;
        private int base;
        private int top;
        private int at;
        private int limit;
        /** How many blocks were open as the function was entered. */
        private int floor;
        private boolean over;

        Machine(Program first) {
            program = first;
            code = first.lines;
            outermost = first.lines;
        }

        void runFunction(Program of, int f, int[] arguments, int callCost) {
            begin(of, of.lines, arguments, of.parameters[f], callCost);
            entered[f]++;
            top = of.variables[f];
            at = of.firstLine[f];
            limit = at + of.lineCount[f];
            goOn();
        }

        void runResult(Program of, Result result, int[] arguments, int callCost) {
            begin(of, result.lines, arguments, result.parameters, callCost);
            top = Math.min(result.variables, MOST_VALUES);
            at = 0;
            limit = result.lines.size;
            goOn();
        }

        private void begin(Program of, Lines lines, int[] arguments, int parameters, int callCost) {
            program = of;
            code = lines;
            outermost = lines;
            cost = callCost;
            Arrays.fill(answers, 0);
            Arrays.fill(entered, 0);
            Arrays.fill(done, 0);
            Arrays.fill(values, 0);
            for (int k = 0; k < parameters && k < arguments.length; k++) {
                values[k] = arguments[k];
            }
            answers[WITHIN] = 1;
            blocks.size = 0;
            frames.size = 0;
            base = 0;
            floor = 0;
            over = false;
        }

        private void goOn() {
            for (int turn = 0; turn < MOST_TURNS && !over; turn++) {
                if (at < limit) {
                    doLine();
                } else if (blocks.size > floor) {
                    leaveBlock();
                } else {
                    leaveFunction(0);
                }
            }
        }

        private void doLine() {
            if (answers[STEPS] >= MOST_STEPS) {
                halt(BY_STEPS);
                return;
            }
            answers[STEPS]++;
            switch (code.kind[at]) {
                case CALL:
                    doCall();
                    break;
                case IF:
                    doIf();
                    break;
                case LOOP:
                    enterBlock(at + 1, code.end[at], valueOf(code.first[at]));
                    break;
                case GIVE:
                    leaveFunction(valueOf(code.first[at]));
                    break;
                default:
                    putValue(workOut(code.kind[at], valueOf(code.first[at]), valueOf(code.second[at])));
                    break;
            }
        }

        private void halt(int how) {
            answers[STOP] = how;
            over = true;
        }

        private int valueOf(int operand) {
            return isVariable(operand) ? values[base + VARIABLE_AT - operand] : operand;
        }

        /** The line at hand gets its value and is over. */
        private void putValue(int value) {
            values[base + code.target[at]] = value;
            at++;
        }

        private void doIf() {
            if (valueOf(code.first[at]) != 0) {
                enterBlock(at + 1, code.middle[at], 1);
            } else {
                enterBlock(code.middle[at], code.end[at], 1);
            }
        }

        /** An empty block is not gone into: its turns would have no end that steps set. */
        private void enterBlock(int from, int to, int turns) {
            int behind = code.end[at];
            if (turns <= 0 || from >= to || blocks.isFull()) {
                at = behind;
                return;
            }
            blocks.push(from, turns - 1, behind, limit);
            at = from;
            limit = to;
        }

        private void leaveBlock() {
            int last = blocks.size - 1;
            if (blocks.b[last] > 0) {
                blocks.b[last]--;
                at = blocks.a[last];
                return;
            }
            at = blocks.c[last];
            limit = blocks.d[last];
            blocks.size = last;
        }

        private void doCall() {
            if (answers[STEPS] + cost > MOST_STEPS) {
                halt(BY_STEPS);
                return;
            }
            answers[STEPS] += cost;
            int f = program.siteTo[code.site[at]];
            if (frames.size + 1 >= MOST_WITHIN || top + program.variables[f] > MOST_VALUES) {
                halt(BY_WITHIN);
                return;
            }
            answers[CALLS]++;
            done[code.site[at]]++;
            entered[f]++;
            enterFunction(f);
        }

        private void enterFunction(int f) {
            for (int k = 0; k < program.variables[f]; k++) {
                values[top + k] = k < program.parameters[f] ? valueOf(code.operand(at, k)) : 0;
            }
            frames.push(at, base, limit, floor);
            answers[WITHIN] = Math.max(answers[WITHIN], frames.size + 1);
            base = top;
            top += program.variables[f];
            floor = blocks.size;
            code = program.lines;
            at = program.firstLine[f];
            limit = at + program.lineCount[f];
        }

        private void leaveFunction(int value) {
            if (frames.size == 0) {
                answers[GIVEN] = value;
                over = true;
                return;
            }
            int last = frames.size - 1;
            frames.size = last;
            blocks.size = floor;
            top = base;
            at = frames.a[last];
            base = frames.b[last];
            limit = frames.c[last];
            floor = frames.d[last];
            code = last == 0 ? outermost : program.lines;
            putValue(value);
        }
    }

    /** A CALL of the tree, or the ROOT; a NODE as long as it stands. */
    private static final class Call {
        int site;
        int function;
        /** The NODE it is of, by its place among the calls; NONE of the ROOT. */
        int owner;
        int depth;
        /** How many-th it was OPENED; 0 if never, and of the ROOT. */
        int openedAs;
        /** Where its own calls begin, when it was opened. */
        int firstCall;
        boolean stands;
        boolean tooOften;
        long heat;
        long worth;
        long gain;
        int number;
        int chainNodes;
        int chainAdds;
        long chainGain;

        int whyLeft() {
            if (heat < 1) {
                return 1;
            }
            if (tooOften) {
                return 2;
            }
            return openedAs == 0 ? 3 : 4;
        }
    }

    /** THE TREE of a ROOT: OPENING, UNDOING, and what is left. */
    private static final class Tree {
        /** A function with k calls adds more than k, so a budget of 300 can't bring more calls than this. */
        private static final int MOST_CALLS = 320;
        /** 8 functions, each 4 times at most on a path. */
        private static final int MOST_DEPTH = 40;

        final Call[] calls = new Call[MOST_CALLS];
        /** Places among the calls, in the order of RESULT's text. */
        final int[] nodes = new int[MOST_CALLS];
        final int[] left = new int[MOST_CALLS];
        int nodeCount;
        int leftCount;
        long openedGain;
        private final int[] settings = new int[SETTING_FIRST.length];
        private Program program;
        private int made;
        private int size;
        private int openedCount;
        private int undone;
        private int chains;
        private int deepest;

        Tree(Program first) {
            program = first;
            for (int k = 0; k < MOST_CALLS; k++) {
                calls[k] = new Call();
            }
        }

        void grow(Program of, Profile profile, int[] by, int root) {
            program = of;
            System.arraycopy(by, 0, settings, 0, settings.length);
            openedCount = 0;
            openedGain = 0;
            undone = 0;
            chains = 0;
            plantRoot(root, profile.entries[root]);
            makeCallsOf(0, profile);
            openAll(profile);
            undoFrom(0, 0);
            nodeCount = 0;
            leftCount = 0;
            deepest = 0;
            listFrom(0, 0);
        }

        int answer(int what) {
            switch (what) {
                case 0: return nodeCount;
                case 1: return openedCount;
                case 2: return undone;
                case 3: return chains;
                case 4: return size;
                case 5: return deepest;
                case 6: return leftCount;
                default: return NONE;
            }
        }

        private void plantRoot(int root, int entries) {
            Call c = calls[0];
            made = 1;
            c.site = LACKING;
            c.function = root;
            c.owner = NONE;
            c.depth = 0;
            c.openedAs = 0;
            c.stands = true;
            c.tooOften = false;
            c.heat = entries;
            c.worth = 0;
            c.gain = 0;
            size = program.lineCount[root];
        }

        private void openAll(Profile profile) {
            for (int turn = 1; turn < MOST_CALLS; turn++) {
                int place = worthiest();
                if (place == NONE) {
                    return;
                }
                Call c = calls[place];
                c.stands = true;
                c.openedAs = turn;
                openedCount = turn;
                openedGain += c.gain;
                size += program.adds[c.function];
                makeCallsOf(place, profile);
            }
        }

        private void makeCallsOf(int owner, Profile profile) {
            Call above = calls[owner];
            int f = above.function;
            above.firstCall = made;
            for (int s = program.firstSite[f]; s < program.firstSite[f] + program.siteCount[f]; s++) {
                makeCall(owner, s, profile.heatOf(above.heat, f, s));
            }
        }

        private void makeCall(int owner, int s, long heat) {
            if (made >= MOST_CALLS) {
                return;
            }
            Call c = calls[made];
            made++;
            c.site = s;
            c.function = program.siteTo[s];
            c.owner = owner;
            c.depth = calls[owner].depth + 1;
            c.openedAs = 0;
            c.stands = false;
            c.heat = heat;
            c.worth = worthOf(heat, s);
            c.gain = heat * (settings[COST] - program.variables[c.function]);
            c.tooOften = c.depth > MOST_DEPTH || standsAbove(owner, c.function) > settings[RECURSION];
        }

        private long worthOf(long heat, int s) {
            int price = settings[COST] + 2 * program.siteNumbers[s];
            int adds = program.adds[program.siteTo[s]];
            return heat * price * 64 / (adds < 1 ? 1 : adds);
        }

        private int standsAbove(int owner, int f) {
            int often = 0;
            int place = owner;
            for (int level = calls[owner].depth; level >= 0 && place >= 0; level--) {
                if (calls[place].function == f) {
                    often++;
                }
                place = calls[place].owner;
            }
            return often;
        }

        private int worthiest() {
            int place = NONE;
            for (int k = 1; k < made; k++) {
                if (mayOpen(calls[k]) && (place == NONE || comesAhead(k, place))) {
                    place = k;
                }
            }
            return place;
        }

        private boolean mayOpen(Call c) {
            return !c.stands && c.heat >= 1 && !c.tooOften
                && size + program.adds[c.function] <= settings[BUDGET];
        }

        private boolean comesAhead(int k, int other) {
            Call c = calls[k];
            Call o = calls[other];
            if (c.worth != o.worth) {
                return c.worth > o.worth;
            }
            if (c.depth != o.depth) {
                return c.depth < o.depth;
            }
            return isLefter(k, other);
        }

        /** Of two calls of one depth: where their paths part, calls of one node lie in their order. */
        private boolean isLefter(int k, int other) {
            int a = k;
            int b = other;
            for (int level = calls[k].depth; level > 1 && calls[a].owner != calls[b].owner; level--) {
                a = calls[a].owner;
                b = calls[b].owner;
            }
            return a < b;
        }

        private int behindCalls(Call c) {
            return Math.min(made, c.firstCall + program.siteCount[c.function]);
        }

        private void undoFrom(int place, int level) {
            if (level > MOST_DEPTH) {
                return;
            }
            Call c = calls[place];
            c.chainNodes = 1;
            c.chainAdds = place == 0 ? 0 : program.adds[c.function];
            c.chainGain = c.gain;
            for (int k = c.firstCall; k < behindCalls(c); k++) {
                if (calls[k].stands) {
                    undoFrom(k, level + 1);
                    addToChain(c, calls[k]);
                }
            }
            if (place != 0 && c.chainGain * 100 < (long) settings[RATE] * c.chainAdds) {
                c.stands = false;
                chains++;
                undone += c.chainNodes;
                size -= c.chainAdds;
            }
        }

        private static void addToChain(Call c, Call below) {
            if (below.stands) {
                c.chainNodes += below.chainNodes;
                c.chainAdds += below.chainAdds;
                c.chainGain += below.chainGain;
            }
        }

        private void listFrom(int place, int level) {
            if (level > MOST_DEPTH) {
                return;
            }
            Call c = calls[place];
            c.number = nodeCount;
            nodes[nodeCount] = place;
            nodeCount++;
            deepest = Math.max(deepest, c.depth);
            for (int k = c.firstCall; k < behindCalls(c); k++) {
                if (calls[k].stands) {
                    listFrom(k, level + 1);
                } else {
                    left[leftCount] = k;
                    leftCount++;
                }
            }
        }
    }

    /** THE RESULT of the tree at hand. */
    private static final class Result {
        private static final int MOST_RESULT_LINES = 320;
        private static final int MOST_LEVEL = 40;

        final Lines lines = new Lines(MOST_RESULT_LINES);
        int variables;
        int parameters;
        private Program program;

        Result(Program first) {
            program = first;
        }

        void write(Program of, Tree tree) {
            program = of;
            lines.size = 0;
            int root = tree.calls[0].function;
            parameters = program.parameters[root];
            variables = program.variables[root];
            writeNode(tree, tree.calls[0], 0, 0, 0);
        }

        /** A node's lines, its variables numbered from base on, at the depth and in the branch of its call. */
        private void writeNode(Tree tree, Call node, int base, int depth, int branch) {
            if (node.depth > MOST_LEVEL) {
                return;
            }
            Lines from = program.lines;
            int f = node.function;
            for (int k = program.firstLine[f]; k < program.firstLine[f] + program.lineCount[f]; k++) {
                int newDepth = depth + from.depth[k];
                int newBranch = from.depth[k] == 0 ? branch : from.branch[k];
                int place = node.firstCall + from.site[k] - program.firstSite[f];
                if (from.kind[k] == CALL && place < tree.calls.length && tree.calls[place].stands) {
                    writeOpened(tree, tree.calls[place], k, base, newDepth, newBranch);
                } else if (from.kind[k] != GIVE || node.depth == 0) {
                    copyLine(k, base, newDepth, newBranch);
                }
            }
        }

        private void writeOpened(Tree tree, Call node, int k, int base, int depth, int branch) {
            int f = node.function;
            int own = variables;
            variables += program.variables[f];
            for (int v = 0; v < program.variables[f]; v++) {
                int operand = v < program.parameters[f] ? shifted(program.lines.operand(k, v), base) : 0;
                writeCopy(own + v, operand, depth, branch);
            }
            writeNode(tree, node, own, depth, branch);
            int given = program.gives(f) ? shifted(program.given[f], own) : 0;
            writeCopy(program.lines.target[k] + base, given, depth, branch);
        }

        private void writeCopy(int target, int operand, int depth, int branch) {
            int at = lines.add(COPY, depth, branch);
            if (at != NONE) {
                lines.target[at] = target;
                lines.first[at] = operand;
            }
        }

        private void copyLine(int k, int base, int depth, int branch) {
            Lines from = program.lines;
            int at = lines.add(from.kind[k], depth, branch);
            if (at == NONE) {
                return;
            }
            lines.target[at] = from.target[k] < 0 ? LACKING : from.target[k] + base;
            lines.first[at] = shifted(from.first[k], base);
            lines.second[at] = shifted(from.second[k], base);
            lines.third[at] = shifted(from.third[k], base);
            lines.site[at] = from.site[k];
            lines.withElse[at] = from.withElse[k];
        }

        private static int shifted(int operand, int base) {
            return isVariable(operand) ? operand - base : operand;
        }
    }

    /** KNOWN NUMBERS of a RESULT. */
    private static final class Known {
        static final int FOLDED = 0;
        static final int DECIDED = 1;
        static final int NEVER = 2;
        static final int GIVES_KNOWN = 3;
        static final int GIVEN = 4;
        static final int AT_END = 5;
        static final int ANSWERS = 6;

        /** No number of 32 bits. */
        private static final long UNKNOWN = Long.MIN_VALUE;
        private static final int MOST_NUMBERS = 320;
        /** Ifs in one another, a call for each four of them, and variables are 308 together at most. */
        private static final int MOST_KEPT = 20000;
        private static final int MOST_OPEN = 320;
        private static final int MOST_TURNS = 10000;

        private static final int FIRST_OF_BOTH = 0;
        private static final int SECOND_OF_BOTH = 1;
        private static final int FIRST_ALONE = 2;
        private static final int OF_LOOP = 3;

        final int[] answers = new int[ANSWERS];
        private final long[] numbers = new long[MOST_NUMBERS];
        /** What was known at the ifs around, one row of numbers behind another. */
        private final long[] kept = new long[MOST_KEPT];
        private int keptSize;
        /** Blocks that are open: the line they are of, which of its blocks, where they end. */
        private final Pile blocks = new Pile(MOST_OPEN);
        private int variables;
        private int at;

        void goThrough(Lines lines, int variableCount, int parameters) {
            variables = Math.min(variableCount, MOST_NUMBERS);
            Arrays.fill(answers, 0);
            for (int v = 0; v < variables; v++) {
                numbers[v] = v < parameters ? UNKNOWN : 0;
            }
            answers[GIVES_KNOWN] = 1;
            keptSize = 0;
            blocks.size = 0;
            at = 0;
            for (int turn = 0; turn < MOST_TURNS && !isOver(lines); turn++) {
                if (blocks.size > 0 && at >= blocks.c[blocks.size - 1]) {
                    leaveBlock(lines);
                } else {
                    goThroughLine(lines);
                }
            }
            for (int v = 0; v < variables; v++) {
                answers[AT_END] += numbers[v] == UNKNOWN ? 0 : 1;
            }
        }

        private boolean isOver(Lines lines) {
            return at >= lines.size && blocks.size == 0;
        }

        private void goThroughLine(Lines lines) {
            switch (lines.kind[at]) {
                case CALL:
                    numbers[lines.target[at]] = UNKNOWN;
                    at++;
                    break;
                case IF:
                    goThroughIf(lines);
                    break;
                case LOOP:
                    goThroughLoop(lines);
                    break;
                case GIVE:
                    noteGiven(numberOf(lines.first[at]));
                    at++;
                    break;
                default:
                    goThroughPut(lines);
                    break;
            }
        }

        private long numberOf(int operand) {
            return isVariable(operand) ? numbers[VARIABLE_AT - operand] : operand;
        }

        private void noteGiven(long number) {
            boolean isKnown = number != UNKNOWN;
            answers[GIVES_KNOWN] = isKnown ? 1 : 0;
            answers[GIVEN] = isKnown ? (int) number : 0;
        }

        private void goThroughPut(Lines lines) {
            int kind = lines.kind[at];
            long a = numberOf(lines.first[at]);
            long b = kind == COPY ? 0 : numberOf(lines.second[at]);
            if (a == UNKNOWN || b == UNKNOWN) {
                numbers[lines.target[at]] = UNKNOWN;
            } else {
                numbers[lines.target[at]] = workOut(kind, (int) a, (int) b);
                answers[FOLDED] += kind == COPY ? 0 : 1;
            }
            at++;
        }

        private void goThroughIf(Lines lines) {
            long number = numberOf(lines.first[at]);
            if (number == UNKNOWN) {
                keep();
                openBlock(FIRST_OF_BOTH, lines.middle[at]);
                return;
            }
            answers[DECIDED]++;
            if (number != 0) {
                answers[NEVER] += lines.end[at] - lines.middle[at];
                openBlock(FIRST_ALONE, lines.middle[at]);
            } else {
                answers[NEVER] += lines.middle[at] - (at + 1);
                at = lines.middle[at];
            }
        }

        private void goThroughLoop(Lines lines) {
            long number = numberOf(lines.first[at]);
            if (number != UNKNOWN && number <= 0) {
                answers[NEVER] += lines.end[at] - (at + 1);
                at = lines.end[at];
                return;
            }
            forgetTargets(lines, at);
            openBlock(OF_LOOP, lines.end[at]);
        }

        private void openBlock(int which, int end) {
            blocks.push(at, which, end, 0);
            at++;
        }

        private void leaveBlock(Lines lines) {
            int last = blocks.size - 1;
            int opener = blocks.a[last];
            if (blocks.b[last] == FIRST_OF_BOTH) {
                exchangeWithKept();
                blocks.b[last] = SECOND_OF_BOTH;
                blocks.c[last] = lines.end[opener];
                return;
            }
            if (blocks.b[last] == SECOND_OF_BOTH) {
                mergeWithKept();
            } else if (blocks.b[last] == OF_LOOP) {
                forgetTargets(lines, opener);
            }
            at = lines.end[opener];
            blocks.size = last;
        }

        private void forgetTargets(Lines lines, int opener) {
            for (int k = opener + 1; k < lines.end[opener]; k++) {
                if (lines.target[k] >= 0) {
                    numbers[lines.target[k]] = UNKNOWN;
                }
            }
        }

        private void keep() {
            if (keptSize + variables <= MOST_KEPT) {
                System.arraycopy(numbers, 0, kept, keptSize, variables);
                keptSize += variables;
            }
        }

        private void exchangeWithKept() {
            int from = Math.max(0, keptSize - variables);
            for (int v = 0; v < variables; v++) {
                long was = kept[from + v];
                kept[from + v] = numbers[v];
                numbers[v] = was;
            }
        }

        private void mergeWithKept() {
            keptSize = Math.max(0, keptSize - variables);
            for (int v = 0; v < variables; v++) {
                if (numbers[v] != kept[keptSize + v]) {
                    numbers[v] = UNKNOWN;
                }
            }
        }
    }

    /** BEST: the worthiest set of calls for a room. */
    private static final class Best {
        private static final int ROW = MOST_ROOM + 1;

        int found;
        private final int[] function = new int[MOST_CHOSEN];
        private final int[] owner = new int[MOST_CHOSEN];
        private final int[] adds = new int[MOST_CHOSEN];
        private final long[] heat = new long[MOST_CHOSEN];
        private final long[] gain = new long[MOST_CHOSEN];
        /** How many stand in the branch of each, itself too. */
        private final int[] branchSize = new int[MOST_CHOSEN];
        private final int[] nextPlace = new int[MOST_CHOSEN];
        /** By place: each ahead of all below it, these next to it. */
        private final int[] order = new int[MOST_CHOSEN];
        /** Row p, room r: the greatest gain of those from place p on. */
        private final long[] table = new long[(MOST_CHOSEN + 1) * ROW];
        private final int[] settings = new int[SETTING_FIRST.length];
        private Program program;
        private int root;

        Best(Program first) {
            program = first;
        }

        void collect(Program of, Profile profile, int[] by, int f) {
            program = of;
            System.arraycopy(by, 0, settings, 0, settings.length);
            root = f;
            found = 0;
            addCallsOf(NONE, f, profile.entries[f], profile);
            for (int j = 0; j < found && j < MOST_CHOSEN; j++) {
                addCallsOf(j, function[j], heat[j], profile);
            }
        }

        private void addCallsOf(int above, int f, long heatAbove, Profile profile) {
            for (int s = program.firstSite[f]; s < program.firstSite[f] + program.siteCount[f]; s++) {
                long h = profile.heatOf(heatAbove, f, s);
                int g = program.siteTo[s];
                if (found < MOST_CHOSEN && h >= 1 && standsFrom(above, g) <= settings[RECURSION]) {
                    function[found] = g;
                    owner[found] = above;
                    heat[found] = h;
                    adds[found] = program.adds[g];
                    gain[found] = h * (settings[COST] - program.variables[g]);
                    found++;
                }
            }
        }

        private int standsFrom(int above, int g) {
            int often = root == g ? 1 : 0;
            int j = above;
            for (int level = 0; level < MOST_CHOSEN && j >= 0; level++) {
                if (function[j] == g) {
                    often++;
                }
                j = owner[j];
            }
            return often;
        }

        long greatestGain(int room) {
            fillTable();
            return table[room];
        }

        int leastAdds(int room) {
            fillTable();
            int least = room;
            while (least > 0 && table[least - 1] == table[room]) {
                least--;
            }
            return least;
        }

        private void fillTable() {
            putInOrder();
            for (int r = 0; r < ROW; r++) {
                table[found * ROW + r] = 0;
            }
            for (int p = found - 1; p >= 0; p--) {
                fillRow(p, order[p]);
            }
        }

        /** Without one all below it are out, too: then the next place is behind its branch. */
        private void fillRow(int p, int j) {
            int without = (p + branchSize[j]) * ROW;
            int with = (p + 1) * ROW;
            for (int r = 0; r < ROW; r++) {
                long most = table[without + r];
                if (r >= adds[j]) {
                    most = Math.max(most, gain[j] + table[with + r - adds[j]]);
                }
                table[p * ROW + r] = most;
            }
        }

        private void putInOrder() {
            for (int j = 0; j < found; j++) {
                branchSize[j] = 1;
            }
            for (int j = found - 1; j >= 0; j--) {
                if (owner[j] >= 0) {
                    branchSize[owner[j]] += branchSize[j];
                }
            }
            int outer = 0;
            for (int j = 0; j < found; j++) {
                int place = owner[j] >= 0 ? nextPlace[owner[j]] : outer;
                if (owner[j] >= 0) {
                    nextPlace[owner[j]] += branchSize[j];
                } else {
                    outer += branchSize[j];
                }
                nextPlace[j] = place + 1;
                order[place] = j;
            }
        }
    }
}
