/** Promises 17 to 21: THE RESULT, told, run, and what is KNOWN in it. */
public final class ResultTest {
    private static final int NO = Integer.MIN_VALUE;
    private static final String THREE = "fun m(n){loop n{a=p(a,1);b=q();}give a;}"
        + "fun p(x,y){z=x+y;w=q();give z;}fun q(){r=1;give r;}";

    private static CallOpener countedWith(String text, int argument) {
        CallOpener x = Check.with(text);
        x.argument(0, argument);
        Check.due("counted", x.counted(0), 0);
        return x;
    }

    private static void promise17Result() {
        CallOpener x = countedWith(THREE, 5);
        Check.dueAll("result", w -> x.result(0, w), 14, 9, 0, 1, -1);
        x.set(0, 13);
        Check.dueAll("result", w -> x.result(0, w), 12, 8, 1, 1, -1);
        x.set(0, 0);
        Check.dueAll("result", w -> x.result(0, w), 4, 3, 2, 1, -1);
        Check.dueAll("result of q", w -> x.result(2, w), 2, 1, 0, 0, -1);
        Check.due("no such what", x.result(0, -1), -1);
        Check.due("no such function", x.result(3, 0), -1);
        Check.due("no such function", x.result(-1, 0), -1);
    }

    private static void dueLine(CallOpener x, int i, long... wants) {
        Check.dueAll("line " + i, w -> x.line(0, i, w), wants);
    }

    private static void promise18Line() {
        CallOpener x = countedWith(THREE, 5);
        dueLine(x, 0, 8, -2, -10, -2, -2, -2, 0, 0, -1);
        dueLine(x, 1, 0, 3, -11, -2, -2, -2, 1, 0, -1);
        dueLine(x, 2, 0, 4, 1, -2, -2, -2, 1, 0);
        dueLine(x, 3, 0, 5, 0, -2, -2, -2, 1, 0);
        dueLine(x, 4, 0, 6, 0, -2, -2, -2, 1, 0);
        dueLine(x, 5, 1, 5, -13, -14, -2, -2, 1, 0);
        dueLine(x, 6, 0, 7, 0, -2, -2, -2, 1, 0);
        dueLine(x, 7, 0, 7, 1, -2, -2, -2, 1, 0);
        dueLine(x, 8, 0, 6, -17, -2, -2, -2, 1, 0);
        dueLine(x, 9, 0, 1, -15, -2, -2, -2, 1, 0);
        dueLine(x, 10, 0, 8, 0, -2, -2, -2, 1, 0);
        dueLine(x, 11, 0, 8, 1, -2, -2, -2, 1, 0);
        dueLine(x, 12, 0, 2, -18, -2, -2, -2, 1, 0);
        dueLine(x, 13, 9, -2, -11, -2, -2, -2, 0, 0);
        dueLine(x, 14, -1, -1, -1);
        dueLine(x, -1, -1, -1, -1);
        Check.due("no such what", x.line(0, 0, -1), -1);
        Check.due("no such function", x.line(3, 0, 0), -1);
        CallOpener y = Check.with("fun f(a){b=g(a,7,b);if b{}else{b=a<b;b=1=a;b=1-2;}if a{b=3*a;}}fun g(c,d,e){}");
        dueLine(y, 0, 6, 1, -10, 7, -11, 1, 0, 0);
        dueLine(y, 1, 7, -2, -11, -2, -2, -2, 0, 1);
        dueLine(y, 2, 4, 1, -10, -11, -2, -2, 1, 0);
        dueLine(y, 3, 5, 1, 1, -10, -2, -2, 1, 0);
        dueLine(y, 4, 2, 1, 1, 2, -2, -2, 1, 0);
        dueLine(y, 5, 7, -2, -10, -2, -2, -2, 0, 0);
        dueLine(y, 6, 3, 1, 3, -10, -2, -2, 1, 0);
    }

    private static void openedInElse() {
        // what is opened in the else BLOCK stays in it, a function without give gives 0
        CallOpener x = countedWith("fun f(n){a=9;if n{a=1;}else{a=g();}give a;}fun g(){if 0{h=1;}else{h=2;}}", 0);
        Check.dueAll("result", w -> x.result(0, w), 5 + 4, 3, 0, 1);
        Check.dueAll("the if within", w -> x.line(0, 4, w), 7, -2, 0, -2, -2, -2, 1, 1);
        Check.dueAll("its else", w -> x.line(0, 6, w), 0, 2, 2, -2, -2, -2, 2, 0);
        Check.dueAll("what g gives", w -> x.line(0, 7, w), 0, 1, 0, -2, -2, -2, 1, 0);
        Check.dueAll("after", w -> x.after(0, w), 0, 0, 7, 0, 1);
        x.argument(0, 1);
        Check.dueAll("after", w -> x.after(0, w), 0, 1, 4, 0, 1);
    }

    private static void promise19After() {
        CallOpener x = countedWith(THREE, 5);
        Check.dueAll("run", w -> x.run(0, w), 0, 5, 197, 15, 3, NO);
        Check.dueAll("after", w -> x.after(0, w), 0, 5, 62, 0, 1, NO);
        x.argument(0, 3);
        Check.dueAll("other arguments", w -> x.after(0, w), 0, 3, 38, 0, 1, NO);
        x.argument(0, 5);
        x.set(0, 13);
        Check.dueAll("q is called", w -> x.after(0, w), 0, 5, 2 + 5 * (10 + 10 + 2), 5, 2, NO);
        x.argument(0, 500);
        // 136 turns, then six lines up to the call, the cost of which is too much
        Check.dueAll("it stops", w -> x.after(0, w), 1, 0, 1 + 136 * 22 + 6, 136, 2, NO);
        Check.due("no such what", x.after(0, -1), NO);
        Check.due("no such function", x.after(3, 0), NO);
        Check.due("nothing is counted", x.count(4), 16);
    }

    private static void promise20Saved() {
        CallOpener x = countedWith(THREE, 5);
        Check.due("saved", x.saved(0), 135);
        Check.due("saved of q", x.saved(2), 0);
        x.set(0, 0);
        Check.due("saved of none", x.saved(0), 0);
        x.set(0, 100);
        x.argument(0, 80);
        Check.due("the function stops", x.run(0, 0), 1);
        Check.due("the result ends", x.after(0, 0), 0);
        Check.due("one stops", x.saved(0), NO);
        Check.due("no such function", x.saved(3), NO);
        Check.due("no such function", x.saved(-1), NO);
        CallOpener y = countedWith("fun f(){a=g();}fun g(){b=0;c=0;d=0;}", 0);
        y.set(1, 1);
        y.set(3, 0);
        Check.due("undone, nothing saved", y.saved(0), 0);
    }

    private static void dueFolded(String text, long... wants) {
        CallOpener x = Check.with(text);
        Check.dueAll("folded [" + text + "]", w -> x.folded(0, w), wants);
    }

    private static void promise21Folded() {
        dueFolded("fun f(p){a=2;b=a*3;if b{c=1;}else{c=2;d=c+1;}if p{e=5;}else{e=5;g=1;}loop 0{h=1;if p{h=2;}}give e;}",
            1, 1, 5, 1, 5, 6, NO);
        dueFolded("fun f(){loop 3{a=a+1;b=2;c=b+b;}give c;}", 1, 0, 0, 0, 0, 0);
        dueFolded("fun f(){}", 0, 0, 0, 1, 0, 0);
        dueFolded("fun f(p){}", 0, 0, 0, 1, 0, 0);
        dueFolded("fun f(p){p=7;give p;}", 0, 0, 0, 1, 7, 1);
        dueFolded("fun f(p){give 9;}", 0, 0, 0, 1, 9, 0);
        dueFolded("fun f(p){give p;}", 0, 0, 0, 0, 0, 0);
        dueFolded("fun f(){a=1<2;b=2<1;c=a=b;d=a-3;give d;}", 4, 0, 0, 1, -2, 4);
        int big = 999 * 999 * 999 * 999;
        dueFolded("fun f(){a=999*999;a=a*a;give a;}", 2, 0, 0, 1, big, 1);
        dueFolded("fun f(){a=f();b=a*0;give b;}", 0, 0, 0, 0, 0, 0);
        dueFolded("fun f(p){a=1;if p{a=1;b=1;}give a;}", 0, 0, 0, 1, 1, 1);
        dueFolded("fun f(p){if p{}else{b=1;}give b;}", 0, 0, 0, 0, 0, 0);
        dueFolded("fun f(p){if 0{if p{a=1;}}else{a=2;}give a;}", 0, 1, 2, 1, 2, 1);
        dueFolded("fun f(p){if 1{}else{loop p{a=1;}}give a;}", 0, 1, 2, 1, 0, 1);
        dueFolded("fun f(p){if p{if 1{a=3;}else{a=4;}}else{a=3;}a=a+1;give a;}", 1, 1, 1, 1, 4, 1);
        dueFolded("fun f(p){a=0-1;loop a{b=b+1;}loop p{c=d+1;}give b;}", 2, 0, 1, 1, 0, 3);
        dueFolded("fun f(p){loop p{a=1;}b=b+1;give b;}", 1, 0, 0, 1, 1, 1);
        dueFolded("fun f(p,q){if q{p=1;}else{p=2;}give p;}", 0, 0, 0, 0, 0, 0);
        dueFolded("fun f(p,q){if q{p=1;}else{p=1;}give p;}", 0, 0, 0, 1, 1, 1);
        dueFolded("fun f(p,q){if q{p=1;}give p;}", 0, 0, 0, 0, 0, 0);
        // a line that is NEVER done is for its VARIABLE all the same, as the loop begins
        dueFolded("fun f(p){loop p{if 0{a=1;}b=a+1;}give a;}", 0, 1, 1, 0, 0, 0);
        CallOpener x = countedWith("fun f(p){a=g(4);b=a+1;give b;}fun g(c){d=c*c;give d;}", 0);
        Check.dueAll("opened, then known", w -> x.folded(0, w), 2, 0, 0, 1, 17, 4, NO);
        x.set(0, 0);
        Check.dueAll("not opened", w -> x.folded(0, w), 0, 0, 0, 0, 0, 0, NO);
        Check.due("no such what", x.folded(0, -1), NO);
        Check.due("no such function", x.folded(2, 0), NO);
        Check.due("no such function", x.folded(-1, 0), NO);
    }

    /** 31 NODES one below another, each in four ifs: as deep as a text of 400 bytes gets. */
    private static void deepest() {
        StringBuilder text = new StringBuilder();
        for (char c = 'a'; c <= 'h'; c++) {
            char next = c == 'h' ? 'a' : (char) (c + 1);
            text.append("fun ").append(c).append("(n){if n{if n{if n{if n{n=n-1;x=").append(next).append("(n);}}}}}");
        }
        CallOpener x = countedWith(text.toString(), 23);
        for (int i = 0; i < 9; i++) {
            x.counted(0);
        }
        x.set(0, 300);
        x.set(2, 3);
        x.set(3, 0);
        Check.dueAll("tree", w -> x.tree(0, w), 32, 31, 0, 0, 6 + 31 * 8, 31, 1);
        Check.dueAll("result", w -> x.result(0, w), 6 + 31 * 8, 64, 1, 1);
        Check.due("the call left", x.left(0, 0, 1), 2);
        Check.due("the innermost line", x.line(0, 7 * 31 + 5, 0), 6);
        Check.due("its depth", x.line(0, 7 * 31 + 5, 6), 4 * 32);
        Check.due("known", x.folded(0, 0), 0);
        // each x but that of the call is 0 whichever way, no n is the same both ways
        Check.due("known at the end", x.folded(0, 5), 31);
        x.argument(0, 31);
        Check.due("run", x.run(0, 0), 2);
        Check.dueAll("after", w -> x.after(0, w), 0, 0, 31 * (6 + 2) + 1, 0, 1);
    }

    public static void main(String[] args) {
        promise17Result();
        promise18Line();
        openedInElse();
        promise19After();
        promise20Saved();
        promise21Folded();
        deepest();
        Check.end("ResultTest");
    }
}
