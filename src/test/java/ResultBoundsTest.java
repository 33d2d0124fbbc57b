/**
 * The bounds of results and known numbers: "Terms" ==== 3 from THE RESULT on, and promises 17 to
 * 21. Each function stands for the sentence that its first line names.
 */
public final class ResultBoundsTest {
    private static final int NO = Integer.MIN_VALUE;
    private static final String DOWN = "fun f(n){if n{n=n-1;x=f(n);}}";

    private static CallOpener counted(String text, int argument) {
        CallOpener x = Check.countedWith(text, argument);
        x.set(3, 0);
        return x;
    }

    /** Lines from the first one on, each as line() tells them: kind, VARIABLE, OPERANDS, FUNCTION, depth, else. */
    private static void dueLines(CallOpener x, int f, int[]... lines) {
        Check.due("lines", x.result(f, 0), lines.length);
        for (int i = 0; i < lines.length; i++) {
            for (int what = 0; what < lines[i].length; what++) {
                Check.due("line " + i + " what " + what, x.line(f, i, what), lines[i][what]);
            }
        }
    }

    private static int[] copy(int variable, int operand, int depth) {
        return new int[] {0, variable, operand, -2, -2, -2, depth, 0};
    }

    /** VARIABLE v as an OPERAND. */
    private static int v(int variable) {
        return -10 - variable;
    }

    // ---- the result

    private static void linesOfTheRoot() {
        Check.about("Terms", "THE RESULT: a FUNCTION with ROOT's PARAMETERS; its LINES those of ROOT");
        CallOpener x = Check.with("fun f(a,b){if a{b=f(7,b);}else{loop b{b=a<3;}}give a;}fun g(){}fun h(a,b,c){d=h(a,0,c);}fun i(a){give 9;}");
        dueLines(x, 0, new int[] {7, -2, v(0), -2, -2, -2, 0, 1}, new int[] {6, 1, 7, v(1), -2, 0, 1, 0},
            new int[] {8, -2, v(1), -2, -2, -2, 1, 0}, new int[] {4, 1, v(0), 3, -2, -2, 2, 0}, new int[] {9, -2, v(0), -2, -2, -2, 0, 0});
        dueLines(x, 1);
        dueLines(x, 2, new int[] {6, 3, v(0), 0, v(2), 2, 0, 0});
        dueLines(x, 3, new int[] {9, -2, 9, -2, -2, -2, 0, 0});
        int[] parameters = {2, 0, 3, 1};
        for (int f = 0; f < 4; f++) {
            Check.due("parameters", x.result(f, 3), parameters[f]);
            Check.due("variables", x.result(f, 1), x.function(f, 1));
        }
        CallOpener sixty = Check.with("fun f(){" + "a=1;".repeat(60) + "}");
        Check.due("60 lines", sixty.result(0, 0), 60);
        Check.due("the last", sixty.line(0, 59, 0), 0);
        Check.due("none behind", sixty.line(0, 60, 0), -1);
    }

    private static void inPlaceOfACall() {
        Check.about("Terms", "for each VARIABLE of f one of its own: of PARAMETERS its LINE: = the OPERAND; of others = 0;"
            + " then the LINES of f likewise (without give), then x = what f gives (without give: 0)");
        CallOpener none = counted("fun m(){a=f();}fun f(){}", 0);
        dueLines(none, 0, copy(0, 0, 0));
        CallOpener number = counted("fun m(){a=f();}fun f(){give 7;}", 0);
        dueLines(number, 0, copy(0, 7, 0));
        CallOpener parameter = counted("fun m(p){p=f(p,5);}fun f(x,y){give y;}", 0);
        dueLines(parameter, 0, copy(1, v(0), 0), copy(2, 5, 0), copy(0, v(2), 0));
        CallOpener other = counted("fun m(){a=f();}fun f(){give x;}", 0);
        dueLines(other, 0, copy(1, 0, 0), copy(0, v(1), 0));
        CallOpener all = counted("fun m(p){a=f(3,a,p);}fun f(x,y,z){u=v-2;if u{y=x;}give v;}", 0);
        dueLines(all, 0, copy(2, 3, 0), copy(3, v(1), 0), copy(4, v(0), 0), copy(5, 0, 0), copy(6, 0, 0),
            new int[] {2, 5, v(6), 2, -2, -2, 0, 0}, new int[] {7, -2, v(5), -2, -2, -2, 0, 0}, copy(3, v(2), 1), copy(1, v(6), 0));
        CallOpener deep = counted("fun m(n){if n{}else{loop 1{a=f();b=a;}}}fun f(){loop 0{x=1;}give x;}", 0);
        dueLines(deep, 0, new int[] {7, -2, v(0), -2, -2, -2, 0, 1}, new int[] {8, -2, 1, -2, -2, -2, 1, 0}, copy(3, 0, 2),
            new int[] {8, -2, 0, -2, -2, -2, 2, 0}, copy(3, 1, 3), copy(1, v(3), 2), copy(2, v(1), 2));
        Check.due("lines are as many as SIZE", deep.tree(0, 4), 7);
    }

    private static void ownVariablesNumbered() {
        Check.about("Terms", "Own VARIABLES are numbered behind ROOT's, as they come: all of a NODE at once where its first LINE comes");
        CallOpener x = counted("fun m(){a=p();b=q(a);c=z();d=q(1);}fun p(){e=f;e=q(2);g=e;}fun q(h){}fun z(){}", 0);
        dueLines(x, 0, copy(4, 0, 0), copy(5, 0, 0), copy(6, 0, 0), copy(4, v(5), 0), copy(7, 2, 0), copy(4, 0, 0), copy(6, v(4), 0),
            copy(0, 0, 0), copy(8, v(0), 0), copy(1, 0, 0), copy(2, 0, 0), copy(9, 1, 0), copy(3, 0, 0));
        Check.due("variables", x.result(0, 1), 10);
        // the right one is opened first, but the left one comes first
        CallOpener y = counted("fun m(p){a=q(p);b=q(1);}fun q(h){}", 0);
        Check.due("opened second", y.node(0, 1, 4), 2);
        dueLines(y, 0, copy(3, v(0), 0), copy(1, 0, 0), copy(4, 1, 0), copy(2, 0, 0));
    }

    private static void resultWhat0To3() {
        Check.about("Promise 17", "THE RESULT of a ROOT, what 0 LINES, 1 VARIABLES, 2 CALLS in it, 3 PARAMETERS; NONE: no such ones");
        CallOpener x = counted("fun m(n,k){a=p();b=p();if 0{b=p();}}fun p(){c=1;}", 0);
        Check.dueAll("result", w -> x.result(0, w), 4 + 2 * 2, 4 + 2, 1, 2, -1);
        Check.dueAll("result of p", w -> x.result(1, w), 1, 1, 0, 0, -1);
        Check.dueRange("result what", w -> x.result(0, w), 0, 3, -1);
        Check.dueRange("result f", f -> x.result(f, 0), 0, 1, -1);
        Check.due("result of none", new CallOpener().result(0, 0), -1);
        // the largest there is: 300 lines
        CallOpener y = counted("fun f(n){if n{n=n-1;" + "x=f(n);".repeat(16) + "}}", 1);
        y.set(0, 300);
        Check.dueAll("many", w -> y.result(0, w), 298, 2 + 14 * 2, 2 + 14 * 16, 1);
        Check.due("the last line", y.line(0, 297, 0), 6);
        Check.due("none behind", y.line(0, 298, 0), -1);
        Check.dueAll("after", w -> y.after(0, w), 0, 0, 2 + 14 * 4 + 2 * 12, 2, 2);
        CallOpener z = counted("fun m(){" + "a=p();".repeat(8) + "}fun p(){" + "b=q();".repeat(8) + "}fun q(){}", 0);
        z.set(0, 80);
        Check.dueAll("64 without lines", w -> z.result(0, w), 80, 9, 0, 0);
        Check.due("nodes", z.tree(0, 0), 73);
        Check.dueAll("after", w -> z.after(0, w), 0, 0, 80, 0, 1);
    }

    private static void lineWhat0To7() {
        Check.about("Promise 18", "2 its first OPERAND (a NUMBER as it is; VARIABLE v: -10 - v; -2: none) .. 7 of if: 1 with else, else 0; NONE: no such ones");
        CallOpener x = Check.with("fun f(a,b,c){d=e+f;g=0-h;h=999*a;a=b<c;b=c=b;a=g(0,999,h);if a{}if b{}else{}loop h{}give d;}fun g(x,y,z){}");
        dueLines(x, 0, new int[] {1, 3, v(4), v(5), -2, -2, 0, 0}, new int[] {2, 6, 0, v(7), -2, -2, 0, 0},
            new int[] {3, 7, 999, v(0), -2, -2, 0, 0}, new int[] {4, 0, v(1), v(2), -2, -2, 0, 0},
            new int[] {5, 1, v(2), v(1), -2, -2, 0, 0}, new int[] {6, 0, 0, 999, v(7), 1, 0, 0},
            new int[] {7, -2, v(0), -2, -2, -2, 0, 0}, new int[] {7, -2, v(1), -2, -2, -2, 0, 1},
            new int[] {8, -2, v(7), -2, -2, -2, 0, 0}, new int[] {9, -2, v(3), -2, -2, -2, 0, 0});
        Check.dueRange("line i", i -> x.line(0, i, 0), 0, 9, -1);
        Check.dueRange("line what", w -> x.line(0, 5, w), 0, 7, -1);
        Check.dueRange("line f", f -> x.line(f, 0, 0), 0, 0, -1);
        Check.due("line of no function", x.line(2, 0, 0), -1);
        Check.due("line of none", new CallOpener().line(0, 0, 0), -1);
        CallOpener y = Check.with("fun f(){x=g();x=h(1);x=i(1,2);}fun g(){}fun h(a){}fun i(a,b){}");
        dueLines(y, 0, new int[] {6, 0, -2, -2, -2, 1}, new int[] {6, 0, 1, -2, -2, 2}, new int[] {6, 0, 1, 2, -2, 3});
        CallOpener z = Check.with("fun f(){if 1{if 1{if 1{if 1{a=1;}else{a=1;}}else{}}}}");
        int[] depths = {0, 1, 2, 3, 4, 4};
        int[] withElse = {0, 0, 1, 1, 0, 0};
        for (int i = 0; i < 6; i++) {
            Check.due("depth", z.line(0, i, 6), depths[i]);
            Check.due("else", z.line(0, i, 7), withElse[i]);
        }
    }

    // ---- its runs

    private static void afterAsRun() {
        Check.about("Promise 19", "A RUN of THE RESULT (its CALLS enter FUNCTIONS as they are), likewise as run()");
        CallOpener x = counted(DOWN, 20);
        x.argument(0, 23);
        Check.dueAll("run", w -> x.run(0, w), 0, 0, 23 * 13 + 1, 23, 24);
        // if, n, own n and x, if, n, CALL, COST, then 22 FUNCTIONS, then x
        Check.dueAll("after", w -> x.after(0, w), 0, 0, 2 + 2 + 3 + 10 + 21 * 13 + 1 + 1, 22, 23, NO);
        x.argument(0, 24);
        Check.due("run", x.run(0, 0), 2);
        Check.dueAll("after", w -> x.after(0, w), 0, 0, 2 + 2 + 3 + 10 + 22 * 13 + 1 + 1, 23, 24);
        x.argument(0, 25);
        Check.dueAll("after", w -> x.after(0, w), 2, 0, 2 + 2 + 3 + 10 + 23 * 13, 23, 24);
        Check.dueRange("after what", w -> x.after(0, w), 0, 4, NO);
        Check.dueRange("after f", f -> x.after(f, 0), 0, 0, NO);
        Check.due("after of none", new CallOpener().after(0, 0), NO);
        CallOpener y = counted("fun m(n,p){loop n{b=1;}a=g(p);give a;}fun g(x){y=y+x;give y;}", 0);
        y.argument(1, 5);
        y.argument(0, 2994);
        Check.dueAll("3000 steps", w -> y.after(0, w), 0, 5, 3000, 0, 1);
        y.argument(0, 2995);
        Check.dueAll("3001 steps", w -> y.after(0, w), 1, 0, 3000, 0, 1);
        y.set(0, 0);
        Check.dueAll("its call's cost is too much", w -> y.after(0, w), 1, 0, 2997, 0, 1);
        y.argument(0, 2985);
        Check.dueAll("3000 steps", w -> y.after(0, w), 0, 5, 3000, 1, 2);
        Check.due("nothing is counted", y.count(4), 2);
        // h is too large to be opened: what g knows ahead of it stays
        CallOpener own = counted("fun m(n){a=g(n);give a;}fun g(x){y=x+5;z=h();y=y+x;give y;}fun h(){a=9;b=9;c=9;d=9;e=9;f=9;g=9;h=9;}", 4);
        own.set(0, 20);
        Check.dueAll("h is left", w -> own.after(0, w), 0, 13, 3 + 1 + 1 + 10 + 8 + 1 + 1 + 1, 1, 2);
        CallOpener z = counted("fun m(n){loop n{a=g(3);b=b+a;}give b;}fun g(x){y=y+x;x=0;give y;}", 4);
        Check.dueAll("own variables anew each time", w -> z.after(0, w), 0, 12, 1 + 4 * 6 + 1, 0, 1);
    }

    private static void savedSteps() {
        Check.about("Promise 20", "STEPS of a RUN of a FUNCTION less those of its RESULT's; Integer.MIN_VALUE: one of both STOPS, no such FUNCTION");
        CallOpener x = counted("fun m(n,k){a=p(n);loop k{b=1;}}fun p(n){b=c;d=e;f=g;loop n{h=q();}}fun q(){}", 20);
        x.set(1, 1);
        Check.due("the chain stays", x.tree(0, 0), 3);
        Check.due("saved", x.saved(0), 13);
        x.argument(0, 7);
        Check.due("saved 0", x.saved(0), 0);
        x.argument(0, 0);
        Check.due("saved less than 0", x.saved(0), -7);
        x.argument(1, 2986);
        Check.due("both end, the result by 3000", x.saved(0), -7);
        x.argument(1, 2987);
        Check.due("the function ends", x.run(0, 0), 0);
        Check.due("the result stops", x.after(0, 0), 1);
        Check.due("one stops", x.saved(0), NO);
        x.argument(1, 2993);
        Check.due("the function ends by 3000", x.run(0, 2), 3000);
        Check.due("one stops", x.saved(0), NO);
        x.argument(1, 2994);
        Check.due("both stop", x.saved(0), NO);
        CallOpener y = counted(DOWN, 20);
        y.argument(0, 23);
        Check.due("both end", y.saved(0), 23 * 13 + 1 - (2 + 2 + 3 + 10 + 21 * 13 + 1 + 1));
        y.argument(0, 24);
        Check.due("the function stops by 2, the result ends", y.saved(0), NO);
        y.argument(0, 25);
        Check.due("both stop", y.saved(0), NO);
        Check.dueRange("saved", x::saved, 1, 2, NO);
        Check.due("saved of none", new CallOpener().saved(0), NO);
    }

    // ---- known numbers

    /** FOLDED, DECIDED, NEVER, gives KNOWN, that, KNOWN at the end. */
    private static void dueFolded(String text, long... wants) {
        CallOpener x = Check.with(text);
        Check.dueAll("folded [" + text + "]", w -> x.folded(0, w), wants);
    }

    private static void knownAtFirst() {
        Check.about("Terms", "at first those of all VARIABLES but PARAMETERS (0)");
        dueFolded("fun f(){}", 0, 0, 0, 1, 0, 0);
        dueFolded("fun f(p,q,r){}", 0, 0, 0, 1, 0, 0);
        dueFolded("fun f(p,q,r){give r;}", 0, 0, 0, 0, 0, 0);
        dueFolded("fun f(p,q,r){give s;}", 0, 0, 0, 1, 0, 1);
        dueFolded("fun f(p){give s;}", 0, 0, 0, 1, 0, 1);
        dueFolded("fun f(){a=b+c;d=e+f;g=h+a;give h;}", 3, 0, 0, 1, 0, 8);
    }

    private static void knownByALine() {
        Check.about("Terms", "x = of what is KNOWN (NUMBERS are): KNOWN then (as worked out; with + - * < = the LINE is FOLDED;"
            + " x = OPERAND is not); else, and by a CALL: x is not");
        dueFolded("fun f(p){p=7;give p;}", 0, 0, 0, 1, 7, 1);
        dueFolded("fun f(p){x=5;p=x;give p;}", 0, 0, 0, 1, 5, 2);
        dueFolded("fun f(p){x=5;x=p;give x;}", 0, 0, 0, 0, 0, 0);
        String[] signs = {"+", "-", "*", "<", "="};
        int[] values = {10, 4, 21, 0, 0};
        for (int i = 0; i < 5; i++) {
            dueFolded("fun f(){a=7" + signs[i] + "3;give a;}", 1, 0, 0, 1, values[i], 1);
            dueFolded("fun f(p){a=b" + signs[i] + "p;give a;}", 0, 0, 0, 0, 0, 1);
            dueFolded("fun f(p){a=p" + signs[i] + "0;give a;}", 0, 0, 0, 0, 0, 0);
            dueFolded("fun f(p){a=p" + signs[i] + "p;give a;}", 0, 0, 0, 0, 0, 0);
        }
        dueFolded("fun f(){a=3<7;b=7=7;a=a+b;give a;}", 3, 0, 0, 1, 2, 2);
        dueFolded("fun f(){a=0-1;b=a<0;give b;}", 2, 0, 0, 1, 1, 2);
        // 999 to the fourth is above 32 bits
        dueFolded("fun f(){a=999*999;a=a*a;give a;}", 2, 0, 0, 1, 999 * 999 * 999 * 999, 1);
        dueFolded("fun f(){a=512*512;a=a*512;a=a*16;give a;}", 3, 0, 0, 1, Integer.MIN_VALUE, 1);
        dueFolded("fun f(){a=512*512;a=a*512;a=a*16;a=a-1;give a;}", 4, 0, 0, 1, Integer.MAX_VALUE, 1);
        dueFolded("fun f(){a=3;a=g();give a;}fun g(){give 3;}", 0, 0, 0, 0, 0, 0);
        CallOpener x = counted("fun f(){a=3;a=g();give a;}fun g(){give 3;}", 0);
        Check.dueAll("opened", w -> x.folded(0, w), 0, 0, 0, 1, 3, 1);
        CallOpener y = counted("fun f(p){a=g(p,4);give a;}fun g(x,y){z=y*2;x=x+z;give z;}", 0);
        Check.dueAll("own ones", w -> y.folded(0, w), 1, 0, 0, 1, 8, 3);
    }

    private static void decidedIf() {
        Check.about("Terms", "if of a KNOWN one (DECIDED): the BLOCK that is done goes on, LINES of the other one are NEVER done (those in them, too)");
        dueFolded("fun f(){if 1{a=1;}else{a=2;a=3;}give a;}", 0, 1, 2, 1, 1, 1);
        dueFolded("fun f(){if 0{a=1;}else{a=2;a=3;}give a;}", 0, 1, 1, 1, 3, 1);
        dueFolded("fun f(){b=0-1;if b{a=1;}else{a=2;a=3;}give a;}", 1, 1, 2, 1, 1, 2);
        dueFolded("fun f(){if 1{a=1;}give a;}", 0, 1, 0, 1, 1, 1);
        dueFolded("fun f(){if 0{a=1;}give a;}", 0, 1, 1, 1, 0, 1);
        dueFolded("fun f(){if 0{}else{}give a;}", 0, 1, 0, 1, 0, 1);
        dueFolded("fun f(){if 1{}else{}give a;}", 0, 1, 0, 1, 0, 1);
        dueFolded("fun f(p){if 0{if p{a=1+1;}else{a=2;}loop 0{a=3;}}give a;}", 0, 1, 5, 1, 0, 1);
        dueFolded("fun f(p){if 1{}else{if 0{a=1+1;}else{a=2;}loop p{a=3;}}give a;}", 0, 1, 5, 1, 0, 1);
        dueFolded("fun f(p){if 1{if 0{a=1;}else{a=1+2;}}else{if p{}}give a;}", 1, 2, 2, 1, 3, 1);
        dueFolded("fun f(p){if p{a=1;}give b;}", 0, 0, 0, 1, 0, 1);
        dueFolded("fun f(p){if 1{a=p;}else{a=3;}give a;}", 0, 1, 1, 0, 0, 0);
        dueFolded("fun f(p){if 0{a=p;}else{p=3;}give p;}", 0, 1, 1, 1, 3, 2);
    }

    private static void ifOfAnother() {
        Check.about("Terms", "of another one: both on their own; KNOWN behind is what both (without else: the first and none) KNOW alike");
        dueFolded("fun f(p){if p{a=1;}else{a=1;}give a;}", 0, 0, 0, 1, 1, 1);
        dueFolded("fun f(p){if p{a=1;}else{a=2;}give a;}", 0, 0, 0, 0, 0, 0);
        dueFolded("fun f(p){if p{a=p;}else{a=2;}give a;}", 0, 0, 0, 0, 0, 0);
        dueFolded("fun f(p){if p{a=2;}else{a=p;}give a;}", 0, 0, 0, 0, 0, 0);
        dueFolded("fun f(p){if p{a=p;}else{a=p;}give a;}", 0, 0, 0, 0, 0, 0);
        dueFolded("fun f(p){a=3;if p{a=3;}give a;}", 0, 0, 0, 1, 3, 1);
        dueFolded("fun f(p){a=3;if p{a=4;}give a;}", 0, 0, 0, 0, 0, 0);
        dueFolded("fun f(p){a=3;if p{a=a+1;}else{a=a+1;}give a;}", 2, 0, 0, 1, 4, 1);
        dueFolded("fun f(p){if p{a=0;b=1;}else{}give a;}", 0, 0, 0, 1, 0, 1);
        dueFolded("fun f(p){if p{}else{b=1;}give b;}", 0, 0, 0, 0, 0, 0);
        dueFolded("fun f(p){if p{p=4;}else{p=4;}give p;}", 0, 0, 0, 1, 4, 1);
        dueFolded("fun f(p){if p{p=4;}give p;}", 0, 0, 0, 0, 0, 0);
        dueFolded("fun f(p){if p{}else{p=4;}give p;}", 0, 0, 0, 0, 0, 0);
        dueFolded("fun f(p){if p{p=5;}else{p=4;}give p;}", 0, 0, 0, 0, 0, 0);
        dueFolded("fun f(p){if p{a=1;if a{b=2;}else{b=3;}}else{if a{b=3;}else{b=2;}}give b;}", 0, 2, 2, 1, 2, 1);
        dueFolded("fun f(p){if p{if p{a=5;}else{a=5;}b=1+1;}else{a=5;b=3-1;}give a;}", 2, 0, 0, 1, 5, 2);
        dueFolded("fun f(p){if p{if p{a=5;}}else{a=5;}give a;}", 0, 0, 0, 0, 0, 0);
        dueFolded("fun f(p){if p{a=1;if p{b=1;}}else{a=1;if p{b=1;}else{b=1;}}give a;}", 0, 0, 0, 1, 1, 1);
    }

    private static void loopOf0AndLess() {
        Check.about("Terms", "loop of a KNOWN one of 0 and less: LINES of its BLOCK are NEVER done");
        dueFolded("fun f(){loop 0{a=1+1;if a{b=1;}}give a;}", 0, 0, 3, 1, 0, 2);
        dueFolded("fun f(){n=0-1;loop n{a=1;}give a;}", 1, 0, 1, 1, 0, 2);
        dueFolded("fun f(){n=999*999;n=n*999;n=n*3;loop n{a=1;}give a;}", 3, 0, 1, 1, 0, 2);
        dueFolded("fun f(){loop 1{a=1;}give a;}", 0, 0, 0, 0, 0, 0);
        dueFolded("fun f(){loop 0{}}", 0, 0, 0, 1, 0, 0);
        dueFolded("fun f(){n=1;loop n{n=n+1;}give n;}", 0, 0, 0, 0, 0, 0);
        dueFolded("fun f(){loop n{n=n+1;}give n;}", 0, 0, 1, 1, 0, 1);
    }

    private static void loopOfOthers() {
        Check.about("Terms", "else all VARIABLES that LINES in its BLOCK (in those in it, too) are for are not KNOWN,"
            + " then the BLOCK goes on by itself; behind it they are not KNOWN again");
        dueFolded("fun f(p){loop p{a=1;b=a+1;}give b;}", 1, 0, 0, 0, 0, 0);
        dueFolded("fun f(p){loop p{b=a+1;a=1;}give c;}", 0, 0, 0, 1, 0, 1);
        dueFolded("fun f(p){c=4;loop p{a=c+1;}give c;}", 1, 0, 0, 1, 4, 1);
        dueFolded("fun f(p){loop p{b=a+1;if p{a=1;}}give b;}", 0, 0, 0, 0, 0, 0);
        dueFolded("fun f(p){loop p{b=a+1;if p{}else{a=1;}}give b;}", 0, 0, 0, 0, 0, 0);
        dueFolded("fun f(p){loop p{b=a+1;loop p{loop p{a=1;}}}give b;}", 0, 0, 0, 0, 0, 0);
        dueFolded("fun f(p){loop p{b=a+1;if 0{a=1;}}give a;}", 0, 1, 1, 0, 0, 0);
        dueFolded("fun f(p){loop p{b=a+1;loop 0{a=1;}}give a;}", 0, 0, 1, 0, 0, 0);
        dueFolded("fun f(p){loop p{b=a+1;a=g();}give c;}fun g(){}", 0, 0, 0, 1, 0, 1);
        dueFolded("fun f(p){if 1{loop p{a=1;}}else{loop p{b=1;}}give b;}", 0, 1, 2, 1, 0, 1);
        dueFolded("fun f(){loop 2{a=1;if a{b=1+1;}}give b;}", 1, 1, 0, 0, 0, 0);
        dueFolded("fun f(p){loop p{p=3;}give p;}", 0, 0, 0, 0, 0, 0);
        dueFolded("fun f(p){b=2;loop p{a=1;}b=b+1;give b;}", 1, 0, 0, 1, 3, 1);
        dueFolded("fun f(p){b=2;loop p{}b=b+1;give b;}", 1, 0, 0, 1, 3, 1);
    }

    private static void eachLineOnce() {
        Check.about("Terms", "(Each LINE that is gone through counts once.)");
        dueFolded("fun f(){loop 9{a=1+1;loop 9{b=1+1;}}}", 2, 0, 0, 1, 0, 0);
        dueFolded("fun f(){loop 9{if 1{a=1+1;}else{b=1;}loop 0{a=1;}}}", 1, 1, 2, 1, 0, 0);
        dueFolded("fun f(p){if p{a=1+1;if 0{b=1;}}else{a=1+1;if 0{b=1;}}}", 2, 2, 2, 1, 0, 2);
    }

    private static void foldedWhat0To5() {
        Check.about("Promise 21", "3 1 if what it gives is KNOWN (without give it is), else 0, 4 that (0 if not), 5 VARIABLES KNOWN at its end;"
            + " Integer.MIN_VALUE: no such ones");
        dueFolded("fun f(p){give 0;}", 0, 0, 0, 1, 0, 0, NO);
        dueFolded("fun f(p){give 999;}", 0, 0, 0, 1, 999, 0, NO);
        dueFolded("fun f(p){a=p;}", 0, 0, 0, 1, 0, 0, NO);
        CallOpener x = counted("fun f(p){a=g(2);}fun g(q){r=q+q;give r;}", 0);
        Check.dueAll("opened", w -> x.folded(0, w), 1, 0, 0, 1, 0, 3, NO);
        Check.dueAll("of g", w -> x.folded(1, w), 0, 0, 0, 0, 0, 0, NO);
        Check.dueRange("folded what", w -> x.folded(0, w), 0, 5, NO);
        Check.dueRange("folded f", f -> x.folded(f, 0), 0, 1, NO);
        Check.due("folded of none", new CallOpener().folded(0, 0), NO);
        x.argument(0, 77);
        Check.dueAll("arguments are not known", w -> x.folded(1, w), 0, 0, 0, 0, 0, 0, NO);
    }

    public static void main(String[] args) {
        linesOfTheRoot();
        inPlaceOfACall();
        ownVariablesNumbered();
        resultWhat0To3();
        lineWhat0To7();
        afterAsRun();
        savedSteps();
        knownAtFirst();
        knownByALine();
        decidedIf();
        ifOfAnother();
        loopOf0AndLess();
        loopOfOthers();
        eachLineOnce();
        foldedWhat0To5();
        Check.end("ResultBoundsTest");
    }
}
