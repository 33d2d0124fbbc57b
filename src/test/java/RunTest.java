/** Promises 8 to 11: RUNS, THE PROFILE, SETTINGS. */
public final class RunTest {
    private static final String SUM = "fun f(n){c=0<n;if c{m=n-1;r=f(m);r=r+n;}give r;}";
    private static final int NO = Integer.MIN_VALUE;

    private static void dueRun(String text, int argument, long... wants) {
        CallOpener x = Check.with(text);
        x.argument(0, argument);
        Check.dueAll("run [" + text + "] of " + argument, w -> x.run(0, w), wants);
    }

    private static void promise8Run() {
        // each entry but the last: 6 lines and 10 for the call; the last: 3 lines
        dueRun(SUM, 3, 0, 6, 51, 3, 4, NO);
        dueRun(SUM, 0, 0, 0, 3, 0, 1, NO);
        dueRun("fun f(){}", 0, 0, 0, 0, 0, 1, NO);
        dueRun("fun f(){a=5;}", 0, 0, 0, 1, 0, 1);
        dueRun("fun f(){a=5;a=g();give a;}fun g(){b=7;}", 0, 0, 0, 14, 1, 2);
        dueRun("fun f(){loop 3{x=g();s=s+x;}give s;}fun g(){y=y+1;give y;}", 0, 0, 3, 1 + 3 * 14 + 1, 3, 2);
        CallOpener x = Check.with(SUM);
        Check.due("no such function", x.run(1, 0), NO);
        Check.due("no such function", x.run(-1, 0), NO);
        Check.due("no such what", x.run(0, -1), NO);
        Check.due("aside", x.count(4), 0);
    }

    private static void linesOfRuns() {
        dueRun("fun f(n){loop n{n=n+1;}give n;}", 4, 0, 8, 6);
        dueRun("fun f(n){loop n{a=1;}give a;}", -1, 0, 0, 2);
        dueRun("fun f(n){loop n{}give n;}", Integer.MAX_VALUE, 0, Integer.MAX_VALUE, 2);
        dueRun("fun f(n){if n{a=1;}else{a=2;}give a;}", -5, 0, 1, 3);
        dueRun("fun f(n){if n{a=1;}else{a=2;}give a;}", 0, 0, 2, 3);
        dueRun("fun f(n){if n{a=1;}give a;}", 0, 0, 0, 2);
        dueRun("fun f(n){if n{}else{a=2;}give a;}", 0, 0, 2, 3);
        dueRun("fun f(n){a=n+1;give a;}", Integer.MAX_VALUE, 0, Integer.MIN_VALUE, 2);
        dueRun("fun f(n){a=n*n;give a;}", 65537, 0, 131073, 2);
        dueRun("fun f(n){a=0-n;give a;}", Integer.MIN_VALUE, 0, Integer.MIN_VALUE, 2);
        dueRun("fun f(n){a=n<0;give a;}", -1, 0, 1, 2);
        dueRun("fun f(n){a=n<0;give a;}", 0, 0, 0, 2);
        dueRun("fun f(n){a=n=0;give a;}", 0, 0, 1, 2);
        dueRun("fun f(n){a=n=0;give a;}", 1, 0, 0, 2);
        dueRun("fun f(n){loop 2{loop 3{if n{a=a+1;}else{b=b+1;}}c=c+a;}give c;}", 1, 0, 9, 1 + 2 * (1 + 3 * 2 + 1) + 1);
        dueRun("fun f(n){a=g(1,n,3);give a;}fun g(p,q,r){s=p-q;s=s*r;give s;}", 5, 0, -12, 1 + 10 + 3 + 1);
    }

    private static void stops() {
        String long2998 = "fun f(){loop 999{a=1;b=2;c=3;}";
        dueRun(long2998 + "}", 0, 0, 0, 2998, 0, 1);
        dueRun(long2998 + "a=1;give 7;}", 0, 0, 7, 3000, 0, 1);
        dueRun(long2998 + "a=1;a=1;give 7;}", 0, 1, 0, 3000, 0, 1);
        String call = long2998 + "a=g();}fun g(){}";
        dueRun(call, 0, 1, 0, 2999, 0, 1);
        CallOpener x = Check.with(call);
        x.set(1, 1);
        Check.dueAll("cost fits", w -> x.run(0, w), 0, 0, 3000, 1, 2);
        x.set(1, 2);
        Check.dueAll("cost is too much", w -> x.run(0, w), 1, 0, 2999, 0, 1);
        dueRun(SUM, 23, 0, 276, 23 * 16 + 3, 23, 24);
        // the 25th function is not entered; its call's line and cost are counted
        dueRun(SUM, 24, 2, 0, 24 * 14, 23, 24);
        // both would be: the cost comes first
        CallOpener y = Check.with("fun f(n){if n{loop n{a=1;}}b=f(0);}");
        y.argument(0, 2711);
        Check.dueAll("24 within by 3000", w -> y.run(0, w), 2, 0, 3000, 23, 24);
        y.argument(0, 2712);
        Check.dueAll("one step more", w -> y.run(0, w), 1, 0, 2991, 23, 24);
    }

    private static void promise9Counted() {
        CallOpener x = Check.with(SUM);
        x.argument(0, 3);
        Check.due("counted", x.counted(0), 0);
        Check.due("entries", x.function(0, 4), 4);
        Check.due("count", x.site(0, 2), 3);
        Check.due("counted again", x.counted(0), 0);
        Check.due("entries", x.function(0, 4), 8);
        x.argument(0, 24);
        Check.due("it stops", x.counted(0), 2);
        x.set(1, 50);
        x.argument(0, 23);
        Check.due("it ends", x.counted(0), 0);
        Check.due("entries", x.count(4), 8 + 24);
        Check.due("counts", x.count(5), 6 + 23);
        Check.due("no such function", x.counted(1), -1);
        Check.due("no such function", x.counted(-1), -1);
        CallOpener y = Check.with("fun f(){loop 999{a=1;b=1;c=1;d=g();}}fun g(){}");
        Check.due("it stops by steps", y.counted(0), 1);
        Check.due("nothing is counted", y.count(4) + y.count(5), 0);
    }

    private static void promise10Forget() {
        CallOpener x = Check.with(SUM);
        x.argument(0, 5);
        x.counted(0);
        Check.due("forget", x.forget(), 6);
        Check.due("entries", x.count(4), 0);
        Check.due("counts", x.count(5), 0);
        Check.due("forget", x.forget(), 0);
        Check.due("heat is gone, too", x.worth(0, 0, 0), 0);
    }

    private static void promise11Set() {
        int[][] bounds = {{0, 300, 100}, {1, 50, 10}, {0, 3, 1}, {0, 500, 100}};
        CallOpener x = new CallOpener();
        for (int k = 0; k < 4; k++) {
            Check.due("below", x.set(k, bounds[k][0] - 1), -1);
            Check.due("above", x.set(k, bounds[k][1] + 1), -1);
            Check.due("least", x.set(k, bounds[k][0]), bounds[k][2]);
            Check.due("most", x.set(k, bounds[k][1]), bounds[k][0]);
            Check.due("back", x.set(k, bounds[k][2]), bounds[k][1]);
        }
        Check.due("no such setting", x.set(4, 1), -1);
        Check.due("no such setting", x.set(-1, 1), -1);
        Check.tell(x, SUM);
        x.argument(0, 1);
        x.set(1, 50);
        Check.due("cost is what a call costs", x.run(0, 2), 9 + 50);
        Check.due("a new program leaves settings", Check.tell(x, SUM), 1);
        Check.due("cost", x.run(0, 2), 9 + 50);
    }

    public static void main(String[] args) {
        promise8Run();
        linesOfRuns();
        stops();
        promise9Counted();
        promise10Forget();
        promise11Set();
        Check.end("RunTest");
    }
}
