/**
 * The bounds of runs, the profile and settings: "Terms" ==== 2 and SETTINGS, and promises 1 and 4
 * to 11. Each function stands for the sentence that its first line names.
 */
public final class RunBoundsTest {
    private static final int NO = Integer.MIN_VALUE;
    private static final int LEAST = Integer.MIN_VALUE;
    private static final int MOST = Integer.MAX_VALUE;
    private static final String DOWN = "fun f(n){if n{n=n-1;x=f(n);}}";

    private static CallOpener on(String text, int... arguments) {
        CallOpener x = Check.with(text);
        for (int k = 0; k < arguments.length; k++) {
            x.argument(k, arguments[k]);
        }
        return x;
    }

    private static void dueGiven(String text, long want, int... arguments) {
        CallOpener x = on(text, arguments);
        Check.due("run ends [" + text + "]", x.run(0, 0), 0);
        Check.due("run gives [" + text + "]", x.run(0, 1), want);
    }

    private static void dueRun(String text, int argument, long... wants) {
        CallOpener x = on(text, argument);
        Check.dueAll("run [" + text + "] of " + argument, w -> x.run(0, w), wants);
    }

    // ---- what a run does

    private static void argumentsForParameters() {
        Check.about("Terms", "A RUN of a FUNCTION on told ARGUMENTS (the first ones, for its PARAMETERS)");
        dueGiven("fun f(){give a;}", 0, 5, 6, 7);
        dueGiven("fun f(a){x=a*100;x=x+b;give x;}", 500, 5, 6, 7);
        dueGiven("fun f(a,b){x=a*100;x=x+b;x=x+c;give x;}", 506, 5, 6, 7);
        dueGiven("fun f(a,b,c){x=a*100;b=b*10;x=x+b;x=x+c;give x;}", 567, 5, 6, 7);
        dueGiven("fun f(a){give a;}", 0);
        dueGiven("fun f(a){give a;}", LEAST, LEAST);
        dueGiven("fun f(a,b,c){give c;}", MOST, 0, 0, MOST);
    }

    private static void wholeNumbersOf32Bits() {
        Check.about("Terms", "VARIABLES hold whole numbers of 32 bits .. + - * wrap");
        dueGiven("fun f(a,b){x=a+b;give x;}", MOST, MOST - 1, 1);
        dueGiven("fun f(a,b){x=a+b;give x;}", LEAST, MOST, 1);
        dueGiven("fun f(a,b){x=a+b;give x;}", LEAST, LEAST + 1, -1);
        dueGiven("fun f(a,b){x=a+b;give x;}", MOST, LEAST, -1);
        dueGiven("fun f(a,b){x=a+b;give x;}", -2, MOST, MOST);
        dueGiven("fun f(a,b){x=a-b;give x;}", LEAST, LEAST + 1, 1);
        dueGiven("fun f(a,b){x=a-b;give x;}", MOST, LEAST, 1);
        dueGiven("fun f(a,b){x=a-b;give x;}", MOST, MOST - 1, -1);
        dueGiven("fun f(a,b){x=a-b;give x;}", LEAST, MOST, -1);
        dueGiven("fun f(a,b){x=a-b;give x;}", LEAST, 0, LEAST);
        dueGiven("fun f(a,b){x=a*b;give x;}", 2147395600, 46340, 46340);
        dueGiven("fun f(a,b){x=a*b;give x;}", -2147479015, 46341, 46341);
        dueGiven("fun f(a,b){x=a*b;give x;}", 0, 65536, 65536);
        dueGiven("fun f(a,b){x=a*b;give x;}", LEAST, LEAST, -1);
        dueGiven("fun f(a,b){x=a*b;give x;}", LEAST, 65536, 32768);
        dueGiven("fun f(){a=999*999;b=a*999;b=b*4;give b;}", 999 * 999 * 999 * 4);
    }

    private static void lessAndLike() {
        Check.about("Terms", "< = give 1, 0");
        String less = "fun f(a,b){x=a<b;give x;}";
        dueGiven(less, 1, 1, 2);
        dueGiven(less, 0, 2, 2);
        dueGiven(less, 0, 3, 2);
        dueGiven(less, 1, -1, 0);
        dueGiven(less, 0, 0, -1);
        dueGiven(less, 1, LEAST, MOST);
        dueGiven(less, 0, MOST, LEAST);
        dueGiven(less, 1, LEAST, 1);
        String like = "fun f(a,b){x=a=b;give x;}";
        dueGiven(like, 0, 1, 2);
        dueGiven(like, 1, 2, 2);
        dueGiven(like, 0, 3, 2);
        dueGiven(like, 1, LEAST, LEAST);
        dueGiven(like, 0, LEAST, MOST);
    }

    private static void variables0AtFirst() {
        Check.about("Terms", "all but PARAMETERS 0 at first (each time it is entered)");
        dueGiven("fun f(){give x;}", 0);
        dueGiven("fun f(){x=x+5;give x;}", 5);
        dueGiven("fun f(){loop 3{s=g(4);t=t+s;}give t;}fun g(a){b=b+a;a=0;c=c+b;give c;}", 12);
        CallOpener x = on("fun f(a){b=b+a;give b;}", 9);
        Check.due("run", x.run(0, 1), 9);
        Check.due("run again", x.run(0, 1), 9);
        // h has the room where g's variables were
        dueGiven("fun f(){a=g(7);b=h();give b;}fun g(p){q=p;r=p;}fun h(){s=u+v;s=s+w;give s;}", 0);
        dueGiven("fun f(n){if n{m=n-1;x=f(m);y=y+x;}y=y+1;give y;}", 4, 3);
    }

    private static void ifNot0() {
        Check.about("Terms", "if: the first BLOCK, if not 0, else the second (none: nothing)");
        int[] not0 = {1, -1, 2, LEAST, MOST};
        for (int n : not0) {
            dueGiven("fun f(n){if n{a=3;}else{a=4;}give a;}", 3, n);
            dueGiven("fun f(n){if n{a=3;}give a;}", 3, n);
            dueGiven("fun f(n){a=2;if n{}else{a=4;}give a;}", 2, n);
        }
        dueGiven("fun f(n){if n{a=3;}else{a=4;}give a;}", 4, 0);
        dueGiven("fun f(n){a=2;if n{a=3;}give a;}", 2, 0);
        dueGiven("fun f(n){a=2;if n{a=3;}else{}give a;}", 2, 0);
        dueGiven("fun f(n){if 0{a=3;}else{a=4;}if 1{b=1;}else{b=2;}a=a*10;a=a+b;give a;}", 41);
    }

    private static void loopSoManyTimes() {
        Check.about("Terms", "loop: the BLOCK so many times as the OPERAND says as it begins (below 0: none)");
        String counts = "fun f(n){loop n{a=a+1;}give a;}";
        dueGiven(counts, 0, LEAST);
        dueGiven(counts, 0, -1);
        dueGiven(counts, 0, 0);
        dueGiven(counts, 1, 1);
        dueGiven(counts, 2, 2);
        dueGiven("fun f(n){loop n{n=0;a=a+1;}give a;}", 7, 7);
        dueGiven("fun f(n){loop n{n=n+1;}give n;}", 14, 7);
        dueGiven("fun f(n){loop n{loop n{a=a+1;n=n-1;}}give a;}", 3, 3);
        dueGiven("fun f(n){loop 2{loop n{a=a+1;}n=n+1;}give a;}", 7, 3);
        dueGiven("fun f(n){loop n{}a=3;give a;}", 3, MOST);
        dueGiven("fun f(n){loop n{loop n{}}give n;}", 2, 2);
        dueRun("fun f(n){loop 2{loop n{}}}", MOST, 0, 0, 3, 0, 1);
    }

    private static void withoutGive0() {
        Check.about("Terms", "A CALL: the FUNCTION is entered with its OPERANDS; what it gives (without give: 0)");
        dueGiven("fun f(){x=9;x=g();give x;}fun g(){y=7;}", 0);
        dueGiven("fun f(){x=9;x=g();give x;}fun g(){}", 0);
        dueGiven("fun f(){y=1;}", 0);
        dueGiven("fun f(a){x=g(1,a,2);give x;}fun g(a,b,c){d=a*100;b=b*10;d=d+b;d=d+c;give d;}", 172, 7);
        dueGiven("fun f(a){b=2;a=g(b,a);give a;}fun g(x,y){z=x-y;give z;}", -5, 7);
        dueGiven("fun f(a){x=g(a);give a;}fun g(a){a=a+1;give a;}", 7, 7);
    }

    // ---- steps

    private static void stepsCounted() {
        Check.about("Terms", "STEPS: LINES begun (if, loop: once; give, too), and COST for each CALL besides");
        dueRun("fun f(){}", 0, 0, 0, 0, 0, 1);
        dueRun("fun f(){give 1;}", 0, 0, 1, 1, 0, 1);
        dueRun("fun f(n){loop n{}}", 5, 0, 0, 1, 0, 1);
        dueRun("fun f(n){loop n{a=1;}}", 5, 0, 0, 6, 0, 1);
        dueRun("fun f(n){loop n{if a{}}}", 5, 0, 0, 6, 0, 1);
        dueRun("fun f(n){if n{}else{a=1;a=2;}}", 5, 0, 0, 1, 0, 1);
        dueRun("fun f(n){if n{}else{a=1;a=2;}}", 0, 0, 0, 3, 0, 1);
        int[] costs = {1, 2, 50};
        for (int cost : costs) {
            CallOpener x = on("fun f(n){loop n{a=g();}}fun g(){give 1;}", 5);
            x.set(1, cost);
            Check.due("cost " + cost, x.run(0, 2), 1 + 5 * (1 + cost + 1));
            Check.due("after, the same", x.after(0, 2), 1 + 5 * (1 + cost + 1));
        }
    }

    /** A loop of n lines, so 1 + n steps, then a line: is it the 3000th or one more? */
    private static void stopsBy3000Steps() {
        Check.about("Terms", "It STOPS: 1 by more than 3000 STEPS (a LINE, or COST, by which there would be more is not counted and not done)");
        String[] lines = {"a=7;", "a=1+a;", "if a{}", "if 1{}else{}", "loop 1{}", "loop a{b=1;}", "give 7;"};
        long[] given = {0, 0, 0, 0, 0, 0, 7};
        for (int i = 0; i < lines.length; i++) {
            String text = "fun f(n){loop n{b=1;}" + lines[i] + "}";
            dueRun(text, 2997, 0, given[i], 2999, 0, 1);
            dueRun(text, 2998, 0, given[i], 3000, 0, 1);
            dueRun(text, 2999, 1, 0, 3000, 0, 1);
            dueRun(text, 3000, 1, 0, 3000, 0, 1);
            dueRun(text, MOST, 1, 0, 3000, 0, 1);
        }
        dueRun("fun f(n){loop n{b=1;}}", 2999, 0, 0, 3000, 0, 1);
        dueRun("fun f(n){loop n{b=1;}}", 3000, 1, 0, 3000, 0, 1);
        dueRun("fun f(n){loop n{loop n{b=1;}}}", MOST, 1, 0, 3000, 0, 1);
    }

    private static void stopsByCost() {
        Check.about("Terms", "(.. or COST, by which there would be more is not counted and not done; the LINE of a CALL counts ahead of its COST)");
        String text = "fun f(n){loop n{b=1;}a=g();}fun g(){}";
        int[] costs = {1, 10, 50};
        for (int cost : costs) {
            for (int steps = 2998; steps <= 3003; steps++) {
                CallOpener x = on(text, steps - 2 - cost);
                x.set(1, cost);
                boolean ends = steps <= 3000;
                int counted = ends ? steps : Math.min(3000, steps - cost);
                Check.dueAll(steps + " steps by cost " + cost, w -> x.run(0, w), ends ? 0 : 1, 0, counted, ends ? 1 : 0, ends ? 2 : 1);
            }
        }
        CallOpener y = on("fun f(n){loop n{b=1;}a=g();}fun g(){give 1;}", 2988);
        Check.dueAll("it stops in g", w -> y.run(0, w), 1, 0, 3000, 1, 2);
        y.argument(0, 2987);
        Check.dueAll("just enough", w -> y.run(0, w), 1 - 1, 0, 3000, 1, 2);
    }

    private static void stopsWithin24() {
        Check.about("Terms", "2 (behind COST) as a FUNCTION would be entered within 24 others");
        dueRun(DOWN, 22, 0, 0, 22 * 13 + 1, 22, 23);
        dueRun(DOWN, 23, 0, 0, 23 * 13 + 1, 23, 24);
        dueRun(DOWN, 24, 2, 0, 24 * 13, 23, 24);
        dueRun(DOWN, 25, 2, 0, 24 * 13, 23, 24);
        dueRun("fun f(){x=f();}", 0, 2, 0, 24 * 11, 23, 24);
        dueRun("fun f(n){x=g(n);}fun g(n){if n{n=n-1;x=h(n);}}fun h(n){x=g(n);}", 11, 0, 0, 11 + 11 * 13 + 11 * 11 + 1, 23, 24);
        dueRun("fun f(n){x=g(n);}fun g(n){if n{n=n-1;x=h(n);}}fun h(n){x=g(n);}", 12, 2, 0, 11 + 12 * 13 + 11 * 11, 23, 24);
        // 24 within one another, one behind the other, are no more within
        dueRun("fun f(){loop 99{x=g();}give x;}fun g(){a=b+c;d=e+f;g=h+1;give g;}", 0, 0, 1, 2 + 99 * 15, 99, 2);
        // 24 times LINES of loop and CALL and COST 1, and n: at the last COST both would stop it
        CallOpener x = on("fun f(n){loop n{b=1;}a=f(0);}", 2928);
        x.set(1, 1);
        Check.dueAll("cost fits", w -> x.run(0, w), 2, 0, 3000, 23, 24);
        x.argument(0, 2929);
        Check.dueAll("cost is too much", w -> x.run(0, w), 1, 0, 3000, 23, 24);
        x.argument(0, 2930);
        Check.dueAll("the line is too much", w -> x.run(0, w), 1, 0, 3000, 23, 24);
        x.argument(0, 2927);
        Check.dueAll("one fewer", w -> x.run(0, w), 2, 0, 2999, 23, 24);
    }

    // ---- the profile

    private static void profileOfCountedRuns() {
        Check.about("Terms", "THE PROFILE: of RUNS that were counted: COUNT of a SITE (how often it was done),"
            + " ENTRIES of a FUNCTION (how often it was entered, by the RUN itself, too)");
        CallOpener x = on("fun f(n){loop n{a=g();if a{b=g();}}}fun g(){give 0;}", 4);
        Check.due("a run aside", x.run(0, 2), 1 + 4 * (1 + 10 + 1 + 1));
        Check.dueAll("count", x::count, 2, 5, 2, 0, 0, 0);
        Check.due("after, aside, too", x.after(0, 3), 4);
        Check.due("saved, too", x.saved(0), 0);
        Check.dueAll("count", x::count, 2, 5, 2, 0, 0, 0);
        Check.due("counted", x.counted(0), 0);
        Check.due("entries of f", x.function(0, 4), 1);
        Check.due("entries of g", x.function(1, 4), 4);
        Check.due("count of the first", x.site(0, 2), 4);
        Check.due("count of the second", x.site(1, 2), 0);
        Check.due("counted", x.counted(1), 0);
        Check.due("entries of g", x.function(1, 4), 5);
        Check.due("counts stay", x.count(5), 4);
        x.argument(0, 0);
        Check.due("counted", x.counted(0), 0);
        Check.dueAll("count", x::count, 2, 5, 2, 0, 7, 4);
    }

    private static void countedIfItEnds() {
        Check.about("Promise 9", "A RUN of a FUNCTION is counted to THE PROFILE, if it ENDS: as run() 0; NONE: no such one");
        CallOpener x = on(DOWN, 23);
        Check.due("it ends", x.counted(0), 0);
        Check.due("entries", x.count(4), 24);
        Check.due("counts", x.count(5), 23);
        x.argument(0, 24);
        Check.due("it stops by 2", x.counted(0), 2);
        Check.due("entries", x.count(4), 24);
        Check.due("counts", x.count(5), 23);
        CallOpener y = on("fun f(n){a=g();loop n{b=1;}}fun g(){}", 2988);
        Check.due("3000 steps", y.counted(0), 0);
        y.argument(0, 2989);
        Check.due("3001 steps", y.counted(0), 1);
        Check.due("entries", y.count(4), 2);
        Check.due("counts", y.count(5), 1);
        Check.dueRange("counted", y::counted, 0, 1, -1);
        Check.due("counted of none", new CallOpener().counted(0), -1);
    }

    private static void forgetAll() {
        Check.about("Promise 10", "THE PROFILE is empty: ENTRIES of all that were");
        CallOpener none = new CallOpener();
        Check.due("forget of none", none.forget(), 0);
        CallOpener x = on(DOWN, 0);
        Check.due("forget of nothing counted", x.forget(), 0);
        x.counted(0);
        Check.due("entries 1", x.forget(), 1);
        x.argument(0, 23);
        x.counted(0);
        x.counted(0);
        Check.due("heat", x.worth(0, 1, 0), 46);
        Check.due("entries 48", x.forget(), 48);
        Check.dueAll("count", x::count, 1, 3, 1, 0, 0, 0);
        Check.due("no heat", x.worth(0, 0, 0), 0);
        Check.due("nothing opened", x.tree(0, 0), 1);
        Check.due("forget again", x.forget(), 0);
        Check.due("counted anew", x.counted(0), 0);
        Check.due("entries 24", x.count(4), 24);
    }

    // ---- asking

    private static void newObject() {
        Check.about("Promise 1", "No FUNCTIONS, told ARGUMENTS 0, SETTINGS as told in brackets");
        CallOpener x = new CallOpener();
        Check.dueAll("count", x::count, 0, 0, 0, 0, 0, 0);
        Check.due("no function", x.function(0, 0), -1);
        Check.due("no site", x.site(0, 0), -1);
        for (int k = 0; k < 3; k++) {
            Check.due("argument " + k, x.argument(k, 1), 0);
        }
        int[] first = {100, 10, 1, 100};
        for (int k = 0; k < 4; k++) {
            Check.due("setting " + k, x.set(k, 1), first[k]);
        }
    }

    private static void countWhat0To5() {
        Check.about("Promise 4", "NONE for others");
        Check.dueRange("count", new CallOpener()::count, 0, 5, -1);
        CallOpener x = Check.countedWith("fun f(){a=g();a=g();}fun g(){b=1;}", 0);
        x.feed(0, 0, 0, 0, 0);
        Check.dueRange("count", x::count, 0, 5, -1);
        Check.dueAll("count", x::count, 2, 3, 2, 20, 3, 2, -1);
    }

    private static void functionWhat() {
        Check.about("Promise 5", "what 0 PARAMETERS .. 8 how many bytes its NAME has, 9 and on: these; NONE: no such ones");
        CallOpener x = Check.with("fun a(){}fun bcdefz(p,q,r){loop 1{s=a();}give s;}");
        Check.dueAll("the least", w -> x.function(0, w), 0, 0, 0, 0, 0, 0, 0, 0, 1, 'a', -1, -1);
        Check.dueAll("the other", w -> x.function(1, w), 3, 4, 3, 1, 0, 6, 1, 0, 6, 'b', 'c', 'd', 'e', 'f', 'z', -1, -1);
        Check.dueRange("function", f -> x.function(f, 0), 0, 1, -1);
        Check.dueRange("what of one letter", w -> x.function(0, w), 0, 9, -1);
        Check.dueRange("what of six letters", w -> x.function(1, w), 0, 14, -1);
        CallOpener y = Check.with("fun a(b){" + "b=a(b);".repeat(16) + "c=d+e;f=g+h;" + "b=1;".repeat(41) + "give i;}");
        Check.dueAll("the most", w -> y.function(0, w), 1, 8, 60, 16, 0, 59 + 8, 1, 1, 1, 'a', -1);
    }

    private static void comesToItself() {
        Check.about("Promise 5", "7 whether it comes to itself by CALLS (1, 0)");
        CallOpener x = Check.with("fun a(){x=a();}fun b(){x=a();}fun c(){if 0{x=d();}}fun d(){x=c();x=a();}fun e(){a=1;}");
        int[] wants = {1, 0, 1, 1, 0};
        for (int f = 0; f < 5; f++) {
            Check.due("function " + f, x.function(f, 7), wants[f]);
        }
        // a chain of eight, told from its end on, with and without the call back
        StringBuilder s = new StringBuilder();
        for (char c = 'a'; c < 'h'; c++) {
            s.insert(0, "fun " + c + "(){x=" + (char) (c + 1) + "();}");
        }
        CallOpener ring = Check.with(s + "fun h(){x=a();}");
        CallOpener chain = Check.with(s + "fun h(){}");
        CallOpener tail = Check.with(s + "fun h(){x=h();}");
        for (int f = 0; f < 8; f++) {
            Check.due("in the ring " + f, ring.function(f, 7), 1);
            Check.due("in the chain " + f, chain.function(f, 7), 0);
            Check.due("ahead of a ring " + f, tail.function(f, 7), f == 7 ? 1 : 0);
        }
        StringBuilder t = new StringBuilder();
        for (char c = 'a'; c < 'h'; c++) {
            t.append("fun " + c + "(){x=" + (char) (c + 1) + "();}");
        }
        CallOpener forward = Check.with(t + "fun h(){x=a();}");
        CallOpener open = Check.with(t + "fun h(){}");
        for (int f = 0; f < 8; f++) {
            Check.due("in the ring " + f, forward.function(f, 7), 1);
            Check.due("in the chain " + f, open.function(f, 7), 0);
        }
    }

    private static void siteWhat() {
        Check.about("Promise 6", "3 in how many loops it stands, 4 in how many ifs, 5 its LINE, 6 the VARIABLE it is for; NONE: no such ones");
        CallOpener x = Check.with("fun a(){b=a();loop 1{b=a();loop 1{b=a();loop 1{b=a();loop 1{b=a();}}}}}");
        CallOpener y = Check.with("fun a(){b=a();if 1{b=a();if 1{b=a();if 1{}else{b=a();if 1{b=a();}}}}}");
        for (int s = 0; s < 5; s++) {
            Check.due("loops", x.site(s, 3), s);
            Check.due("no ifs", x.site(s, 4), 0);
            Check.due("ifs", y.site(s, 4), s);
            Check.due("no loops", y.site(s, 3), 0);
            Check.due("line", x.site(s, 5), 2 * s);
        }
        Check.dueRange("site", s -> x.site(s, 0), 0, 4, -1);
        Check.dueRange("what", w -> x.site(4, w), 0, 6, -1);
        Check.due("site of none", new CallOpener().site(0, 0), -1);
        CallOpener z = Check.with("fun a(c,d){e=f+g;h=i;" + "e=1;".repeat(57) + "i=a(c,d);}");
        Check.dueAll("the last of 60 lines", w -> z.site(0, w), 0, 0, 0, 0, 0, 59, 6);
        CallOpener v = Check.with("fun a(c){d=e+f;g=h+i;j=a(c);c=a(c);}");
        Check.due("the eighth variable", v.site(0, 6), 7);
        Check.due("a parameter", v.site(1, 6), 0);
        CallOpener both = Check.with("fun z(){x=y;}fun a(){if 1{}else{loop 1{if 1{loop 1{x=z();}}}}}");
        Check.dueAll("both", w -> both.site(0, w), 1, 0, 0, 2, 2, 5, 0);
    }

    private static void argumentOf0To2() {
        Check.about("Promise 7", "ARGUMENT k (0 to 2) is v from now on: what it was; Integer.MIN_VALUE: no such one (or it was so)");
        CallOpener x = Check.with("fun f(a,b,c){a=a*100;b=b*10;a=a+b;a=a+c;give a;}");
        Check.dueRange("argument", k -> x.argument(k, 0), 0, 2, NO);
        Check.due("argument 0", x.argument(0, 1), 0);
        Check.due("argument 1", x.argument(1, 2), 0);
        Check.due("argument 2", x.argument(2, 3), 0);
        Check.due("run", x.run(0, 1), 123);
        Check.due("argument 3", x.argument(3, 9), NO);
        Check.due("argument -1", x.argument(-1, 9), NO);
        Check.due("run as before", x.run(0, 1), 123);
        Check.due("what it was", x.argument(0, LEAST), 1);
        Check.due("it was so", x.argument(0, MOST), NO);
        Check.due("it is the greatest", x.argument(0, 0), MOST);
        Check.due("run", x.run(0, 1), 23);
    }

    private static void runWhat0To4() {
        Check.about("Promise 8", "what 0 how it STOPS (0 ENDS), 1 what it gives (0 where it STOPS) .."
            + " 4 the most FUNCTIONS within one another; Integer.MIN_VALUE: no such ones");
        CallOpener x = on("fun f(n){x=g(n);y=h(n);give y;}fun g(n){z=h(n);z=h(z);}fun h(n){loop n{a=a+2;}give a;}", 3);
        Check.dueAll("run", w -> x.run(0, w), 0, 6, 3 + 40 + 2 + (2 + 3) + (2 + 6) + (2 + 3), 4, 3, NO);
        Check.dueRange("run of f", f -> x.run(f, 0), 0, 2, NO);
        Check.dueRange("run what", w -> x.run(0, w), 0, 4, NO);
        Check.dueAll("run of none", w -> new CallOpener().run(0, w), NO, NO, NO, NO, NO, NO);
        x.argument(0, 3000);
        Check.dueAll("it gives 0 where it stops", w -> x.run(0, w), 1, 0, 3000, 2, 3);
        Check.due("the state of a run is left behind", x.run(1, 0), 1);
        x.argument(0, 0);
        Check.dueAll("run", w -> x.run(0, w), 0, 0, 3 + 40 + 2 + 2 + 2 + 2, 4, 3, NO);
    }

    /** However a RUN ended, the next one begins anew. */
    private static void runsBeginAnew() {
        Check.about("Promise 8", "A RUN of a FUNCTION, aside");
        CallOpener x = on("fun f(n){loop n{if n{a=h(n);}}}fun g(n){loop n{b=1;}}fun h(n){loop n{b=b+1;}}", 2999);
        Check.dueAll("it stops in h", w -> x.run(0, w), 1, 0, 3000, 1, 2);
        x.argument(0, 2);
        Check.dueAll("f", w -> x.run(0, w), 0, 0, 1 + 2 * (1 + 1 + 10 + 3), 2, 2);
        x.argument(0, 3000);
        Check.dueAll("it stops in g", w -> x.run(1, w), 1, 0, 3000, 0, 1);
        x.argument(0, 2);
        Check.dueAll("g", w -> x.run(1, w), 0, 0, 3, 0, 1);
        Check.dueAll("g's result", w -> x.after(1, w), 0, 0, 3, 0, 1);
        CallOpener y = on(DOWN, 24);
        Check.due("it stops by 2", y.run(0, 0), 2);
        y.argument(0, 1);
        Check.dueAll("f", w -> y.run(0, w), 0, 0, 14, 1, 2);
    }

    private static void settingsInTheirRanges() {
        Check.about("Terms", "SETTINGS: 0 BUDGET 0 to 300 (100), 1 COST 1 to 50 (10), 2 RECURSION 0 to 3 (1), 3 RATE 0 to 500 (100)."
            + " Promise 11: SETTING k is v: what it was; NONE: no such ones");
        int[] least = {0, 1, 0, 0};
        int[] most = {300, 50, 3, 500};
        int[] first = {100, 10, 1, 100};
        for (int k = 0; k < 4; k++) {
            CallOpener x = new CallOpener();
            Check.due("below", x.set(k, least[k] - 1), -1);
            Check.due("above", x.set(k, most[k] + 1), -1);
            Check.due("far below", x.set(k, LEAST), -1);
            Check.due("far above", x.set(k, MOST), -1);
            Check.due("the least, it was as told", x.set(k, least[k]), first[k]);
            Check.due("one more", x.set(k, least[k] + 1), least[k]);
            Check.due("one less than the most", x.set(k, most[k] - 1), least[k] + 1);
            Check.due("the most", x.set(k, most[k]), most[k] - 1);
            Check.due("above", x.set(k, most[k] + 1), -1);
            Check.due("it is the most", x.set(k, first[k]), most[k]);
            for (int other = 0; other < 4; other++) {
                Check.due("the others", x.set(other, least[other]), first[other]);
            }
        }
        CallOpener y = new CallOpener();
        int[] none = {-1, 4, LEAST, MOST};
        for (int k : none) {
            Check.due("no such setting", y.set(k, 1), -1);
        }
    }

    public static void main(String[] args) {
        argumentsForParameters();
        wholeNumbersOf32Bits();
        lessAndLike();
        variables0AtFirst();
        ifNot0();
        loopSoManyTimes();
        withoutGive0();
        stepsCounted();
        stopsBy3000Steps();
        stopsByCost();
        stopsWithin24();
        profileOfCountedRuns();
        countedIfItEnds();
        forgetAll();
        newObject();
        countWhat0To5();
        functionWhat();
        comesToItself();
        siteWhat();
        argumentOf0To2();
        runWhat0To4();
        runsBeginAnew();
        settingsInTheirRanges();
        Check.end("RunBoundsTest");
    }
}
