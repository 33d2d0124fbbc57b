/**
 * The bounds of the tree: "Terms" ==== 3 up to UNDOING, and promises 12 to 16 and 23 to 25. Each
 * function stands for the sentence that its first line names.
 */
public final class TreeBoundsTest {
    private static final long NO = Long.MIN_VALUE;
    private static final String IF = "if 1{}";
    private static final String DOWN = "fun f(n){if n{n=n-1;x=f(n);}}";
    private static final String TURNS = "fun f(n){if n{n=n-1;x=g(n);}}fun g(n){if n{n=n-1;x=f(n);}}";
    /** LINES 1; ADDS of p 2, of q 6; gains 9 and 10, each once. */
    private static final String CHAIN = "fun m(){a=p();}fun p(){a=q();}fun q(){" + IF.repeat(6) + "}";

    private static CallOpener counted(String text, int argument) {
        return Check.countedWith(text, argument);
    }

    private static void dueTree(String name, CallOpener x, long... wants) {
        Check.dueAll(name, w -> x.tree(0, w), wants);
    }

    private static void dueOrders(String name, CallOpener x, int... orders) {
        Check.due(name + ": nodes", x.tree(0, 0), orders.length);
        for (int i = 0; i < orders.length; i++) {
            Check.due(name + ": order of node " + i, x.node(0, i, 4), orders[i]);
        }
    }

    // ---- heat, worth, gain

    private static void heatOfTheRoot() {
        Check.about("Terms", "HEAT of NODE 0: ENTRIES");
        CallOpener x = Check.with(TURNS);
        Check.due("never entered", x.worth(0, 0, 0), 0);
        x.argument(0, 3);
        x.counted(0);
        Check.due("entered by the run and by a call", x.worth(0, 0, 0), 2);
        Check.due("entered by calls", x.worth(1, 0, 0), 2);
        x.counted(1);
        Check.due("entered by both runs", x.worth(0, 0, 0), 4);
    }

    private static void heatOfCallsIsCut() {
        Check.about("Terms", "of a CALL: that of its NODE, times COUNT of the SITE, by ENTRIES of the NODE's FUNCTION, cut"
            + " (0 without ENTRIES)");
        CallOpener x = Check.with("fun r(n){x=m(n);}fun m(n){if n{y=g();}}fun g(){}");
        dueTree("0 without entries", x, 1, 0, 0, 0, 1, 0, 1);
        Check.due("why", x.left(0, 0, 1), 1);
        x.argument(0, 1);
        x.counted(0);
        dueTree("1 by 1", x, 3, 2, 0, 0, 5, 2, 0);
        x.argument(0, 0);
        x.counted(1);
        dueTree("1 by 2", x, 2, 1, 0, 0, 5, 1, 1);
        Check.due("why", x.left(0, 0, 1), 1);
        x.argument(0, 1);
        x.counted(1);
        dueTree("2 by 3", x, 2, 1, 0, 0, 5, 1, 1);
        Check.due("why", x.left(0, 0, 1), 1);
        x.counted(0);
        Check.due("2 times 3 by 4", x.worth(0, 2, 0), 1);
        x.counted(0);
        Check.due("3 times 4 by 5", x.worth(0, 2, 0), 2);
        Check.due("as of the call", x.worth(0, 1, 0), 3);
        CallOpener y = counted("fun m(n){loop n{x=g();}}fun g(){}", 200);
        for (int i = 0; i < 30; i++) {
            y.counted(0);
        }
        Check.due("31 times 6200 by 31", y.worth(0, 1, 0), 6200);
        Check.due("its worth", y.worth(0, 1, 1), 6200L * 640);
    }

    private static void addsAndAdds0() {
        Check.about("Terms", "ADDS of a FUNCTION: its LINES but give, and its VARIABLES .. by ADDS of the FUNCTION called, cut (ADDS 0: as if 1)");
        CallOpener x = counted("fun m(v){a=t(v);b=o(v);c=z();d=w(v);}fun z(){give 1;}fun o(p){}fun t(p){if p{}}fun w(p){q=p;give q;}", 0);
        int[] adds = {4 + 5, 0, 1, 2, 3};
        for (int f = 0; f < 5; f++) {
            Check.due("adds of " + f, x.function(f, 5), adds[f]);
        }
        long[] worths = {0, 320, 640, 640, 213};
        for (int i = 0; i < 5; i++) {
            Check.due("worth of node " + i, x.worth(0, i, 1), worths[i]);
        }
        dueOrders("adds 0 is like adds 1", x, 0, 3, 1, 2, 4);
    }

    private static void worthByNumbers() {
        Check.about("Terms", "WORTH of a CALL: HEAT times (COST and 2 for each OPERAND that is a NUMBER) times 64 by ADDS .., cut");
        String text = "fun m(p){a=g(p,p,p);b=g(0,p,p);c=g(p,2,999);d=g(1,2,3);}fun g(x,y,z){}";
        CallOpener x = counted(text, 0);
        x.set(3, 0);
        int[] costs = {10, 50, 4};
        for (int cost : costs) {
            x.set(1, cost);
            for (int i = 1; i <= 4; i++) {
                Check.due("worth of node " + i, x.worth(0, i, 1), (cost + 2 * (i - 1)) * 64 / 3);
            }
            dueOrders("the worthiest first", x, 0, 4, 3, 2, 1);
        }
        Check.due("cut", x.worth(0, 1, 1), 85);
        for (int i = 0; i < 6; i++) {
            x.counted(0);
        }
        Check.due("heat ahead of the cut", x.worth(0, 1, 1), 7 * 4 * 64 / 3);
        Check.due("worth of node 0", x.worth(0, 0, 1), 0);
    }

    private static void gainOfNodes() {
        Check.about("Terms", "GAIN of a NODE: HEAT times (COST less the VARIABLES of its FUNCTION); NODE 0: 0");
        CallOpener x = counted("fun m(n){loop n{a=g();b=h();}}fun g(){a=b+c;d=e+f;g=h;}fun h(){}", 3);
        x.set(3, 0);
        long[][] gains = {{8, 0, 3 * 8}, {9, 3, 3 * 9}, {50, 3 * 42, 3 * 50}};
        for (long[] due : gains) {
            x.set(1, (int) due[0]);
            Check.due("gain of g", x.worth(0, 1, 2), due[1]);
            Check.due("gain of h", x.worth(0, 2, 2), due[2]);
            Check.due("gain of node 0", x.worth(0, 0, 2), 0);
            Check.due("gain of all", x.gain(0, true), due[1] + due[2]);
        }
        x.set(1, 1);
        Check.due("less than 0", x.gain(0, true), 3 * -7 + 3);
        Check.due("g is undone", x.gain(0, false), 3);
    }

    /** 500 runs of 1499 calls each: as much heat as 512 calls can bring. */
    private static void wholeNumbersOf64Bits() {
        Check.about("Terms", "(Whole numbers of 64 bits.) .. An object is used for at most 512 calls");
        CallOpener x = Check.with("fun m(n){loop n{x=g();}}fun g(){}");
        x.set(1, 1);
        x.argument(0, 1499);
        for (int i = 0; i < 500; i++) {
            x.counted(0);
        }
        x.set(1, 50);
        long heat = 500 * 1499;
        Check.due("entries", x.count(4), 500 + heat);
        Check.due("heat", x.worth(0, 1, 0), heat);
        Check.due("worth", x.worth(0, 1, 1), heat * 50 * 64);
        Check.due("gain times 100 is above 32 bits", x.gain(0, false), heat * 50);
        Check.due("best", x.best(0, 0, 0), heat * 50);
    }

    // ---- opening

    private static void openedByHeat1() {
        Check.about("Terms", "A CALL may be OPENED, if its HEAT is 1 at least");
        CallOpener x = Check.with("fun m(n){loop n{x=g();}}fun g(){}");
        for (int n = 0; n < 3; n++) {
            x.argument(0, n);
            x.forget();
            x.counted(0);
            Check.due("heat " + n, x.tree(0, 1), n == 0 ? 0 : 1);
        }
        Check.due("heat 2", x.worth(0, 1, 0), 2);
    }

    private static void openedByRecursion() {
        Check.about("Terms", "the FUNCTION called stands RECURSION times at most among the FUNCTIONS of its NODE and those above it");
        CallOpener x = counted(DOWN, 20);
        CallOpener y = counted(TURNS, 20);
        CallOpener z = counted("fun m(){a=g();a=g();a=h();}fun g(){b=h();}fun h(){}", 0);
        for (int recursion = 0; recursion <= 3; recursion++) {
            x.set(2, recursion);
            dueTree("itself, " + recursion, x, 1 + recursion, recursion, 0, 0, 3 + 5 * recursion, recursion, 1);
            Check.due("why", x.left(0, 0, 1), 2);
            Check.due("of node", x.left(0, 0, 2), recursion);
            y.set(2, recursion);
            int opened = 1 + 2 * recursion;
            dueTree("by turns, " + recursion, y, 1 + opened, opened, 0, 0, 3 + 5 * opened, opened, 1);
            Check.due("why", y.left(0, 0, 1), 2);
            z.set(2, recursion);
            dueTree("beside one another, " + recursion, z, 6, 5, 0, 0, 3 + 2 + 2, 2, 0);
        }
    }

    private static void openedByBudget() {
        Check.about("Terms", "and SIZE, with its ADDS, is BUDGET at most. SIZE: LINES of ROOT, and ADDS of all NODES but 0");
        CallOpener x = counted("fun m(){a=g();give a;}fun g(){b=1;}", 0);
        int[][] budgets = {{0, 2}, {3, 2}, {4, 4}, {5, 4}, {300, 4}};
        for (int[] due : budgets) {
            x.set(0, due[0]);
            Check.due("size by " + due[0], x.tree(0, 4), due[1]);
            Check.due("nodes by " + due[0], x.tree(0, 0), due[1] / 2);
            Check.due("lines by " + due[0], x.result(0, 0), due[1]);
        }
        x.set(0, 3);
        Check.due("why", x.left(0, 0, 1), 3);
        CallOpener y = counted("fun m(){a=g();}fun g(){}", 0);
        y.set(0, 0);
        Check.due("root alone is more than budget", y.tree(0, 0), 1);
        y.set(0, 1);
        Check.due("adds 0 fits", y.tree(0, 0), 2);
        CallOpener z = counted("fun m(){" + "a=1;".repeat(59) + "a=g();}fun g(){}", 0);
        z.set(0, 59);
        dueTree("60 lines, budget 59", z, 1, 0, 0, 0, 60, 0, 1);
        z.set(0, 60);
        dueTree("60 lines, budget 60", z, 2, 1, 0, 0, 60, 1, 0);
    }

    private static void worthiestThatFits() {
        Check.about("Terms", "OPENING: as long as some CALL may be, that of greatest WORTH");
        CallOpener x = counted("fun m(n){loop n{a=b();}c=s();}fun b(){p=q;q=1;p=1;p=2;}fun s(){t=1;}", 10);
        int[][] due = {{4, 3}, {5, 5}, {8, 5}, {9, 9}, {10, 9}, {11, 11}};
        for (int[] budget : due) {
            x.set(0, budget[0]);
            Check.due("size by " + budget[0], x.tree(0, 4), budget[1]);
        }
        dueOrders("both", x, 0, 1, 2);
        x.set(0, 8);
        Check.due("the worthier one does not fit", x.node(0, 1, 0), 1);
        Check.due("it is the first opened", x.node(0, 1, 4), 1);
        // what becomes a call by opening may be worthier than what is left
        CallOpener y = counted("fun m(){a=s();b=t();}fun s(){c=u();}fun t(){" + IF.repeat(3) + "}fun u(){}", 0);
        dueOrders("calls of what was opened", y, 0, 1, 2, 3);
    }

    private static void likeOnesLessDeep() {
        Check.about("Terms", "of like ones the one less deep");
        CallOpener x = counted("fun m(p){a=l(1);b=t();}fun l(x){y=t();}fun t(){" + IF.repeat(4) + "}", 0);
        dueOrders("less deep, though on the right", x, 0, 1, 3, 2);
        x.set(0, 2 + 3 + 4);
        dueOrders("one of them fits", x, 0, 1, 2);
        Check.due("the less deep one", x.node(0, 2, 3), 1);
        CallOpener y = counted("fun m(p){b=t();a=l(1);}fun l(x){y=t();}fun t(){" + IF.repeat(4) + "}", 0);
        dueOrders("less deep, on the left", y, 0, 2, 1, 3);
    }

    private static void likeOnesByPath() {
        Check.about("Terms", "then the first by PATH (the places of SITES in their FUNCTIONS, from ROOT on: 0, 1, ..)");
        CallOpener flat = counted("fun m(){a=t();a=t();a=t();}fun t(){" + IF + "}", 0);
        dueOrders("of one node", flat, 0, 1, 2, 3);
        String ends = "fun t(){" + IF.repeat(6) + "}";
        // the right one is worthier, so its calls are there ahead of those of the left one
        CallOpener x = counted("fun m(p){a=l(p);b=r(1);}fun l(x){y=t();y=t();}fun r(x){y=t();y=t();}" + ends, 0);
        dueOrders("of two nodes", x, 0, 2, 3, 4, 1, 5, 6);
        x.set(0, 2 + 4 + 4 + 6);
        Check.due("one fits: the left one's first", x.node(0, 2, 0), 2);
        CallOpener y = counted("fun m(p){a=l(p);b=r(1);}fun l(x){y=u(x);}fun r(x){y=u(1);}fun u(x){y=t();}" + ends, 0);
        dueOrders("they part two levels above", y, 0, 3, 4, 5, 1, 2, 6);
        CallOpener s = counted("fun m(p){a=s(p);}fun s(p){a=l(p);b=r(1);}fun l(x){y=t();}fun r(x){y=t();}" + ends, 0);
        dueOrders("they part below the first level", s, 0, 1, 3, 4, 2, 5);
        CallOpener left = counted("fun m(p){a=l(1);b=r(p);}fun l(x){y=t();y=t();}fun r(x){y=t();y=t();}" + ends, 0);
        dueOrders("the left one is worthier", left, 0, 1, 3, 4, 2, 5, 6);
        // sites are told r ahead of m, but places count within each function
        CallOpener z = counted("fun m(p){a=l(p);b=r(1);}fun r(x){y=t();}fun l(x){y=t();}" + ends, 0);
        dueOrders("by places, not by sites", z, 0, 2, 3, 1, 4);
        Check.due("the left one's site", z.node(0, 2, 0), 3);
    }

    // ---- undoing

    private static void undoneBelowRate() {
        Check.about("Terms", "a NODE, the CHAIN of which .. has GAIN (of all in it) times 100 below RATE times ADDS (of all in it), is no NODE any more");
        CallOpener x = counted("fun m(){x=g();}fun g(){" + IF.repeat(4) + "}", 0);
        int[][] dues = {{0, 2}, {249, 2}, {250, 2}, {251, 1}, {500, 1}};
        for (int[] due : dues) {
            x.set(3, due[0]);
            Check.due("10 for 4 by " + due[0], x.tree(0, 0), due[1]);
            Check.due("undone by " + due[0], x.tree(0, 2), 2 - due[1]);
            Check.due("chains by " + due[0], x.tree(0, 3), 2 - due[1]);
            Check.due("opened all the same", x.tree(0, 1), 1);
            Check.due("size by " + due[0], x.tree(0, 4), due[1] == 2 ? 5 : 1);
        }
        CallOpener y = counted("fun m(){x=g();}fun g(){" + IF.repeat(2) + "}", 0);
        y.set(3, 500);
        Check.due("10 for 2 by 500", y.tree(0, 0), 2);
        y.set(1, 9);
        Check.due("9 for 2 by 500", y.tree(0, 0), 1);
        CallOpener z = counted("fun m(){x=g();}fun g(){y=z;}", 0);
        z.set(3, 0);
        z.set(1, 1);
        Check.due("-1 for 3 by 0", z.tree(0, 0), 1);
        z.set(1, 2);
        Check.due("0 for 3 by 0", z.tree(0, 0), 2);
        z.set(3, 1);
        Check.due("0 for 3 by 1", z.tree(0, 0), 1);
        CallOpener none = counted("fun m(){x=g();}fun g(){}", 0);
        none.set(3, 500);
        none.set(1, 1);
        Check.due("1 for 0 by 500", none.tree(0, 0), 2);
    }

    private static void thoseBelowAhead() {
        Check.about("Terms", "Then UNDOING: NODES but 0, those below ahead of it, from the left by PATH");
        CallOpener x = counted(CHAIN, 0);
        x.set(3, 166);
        dueTree("all stay", x, 3, 2, 0, 0, 9, 2, 0);
        x.set(3, 167);
        dueTree("the lower one is undone", x, 2, 2, 1, 1, 3, 1, 1);
        // 19 for 8 is below 238, but the lower one is undone ahead of it, and 9 for 2 is not
        x.set(3, 238);
        dueTree("the upper one stays", x, 2, 2, 1, 1, 3, 1, 1);
        Check.due("the upper one", x.node(0, 1, 0), 0);
        Check.due("its chain", x.worth(0, 1, 3), 9);
        x.set(3, 450);
        dueTree("the upper one stays", x, 2, 2, 1, 1, 3, 1, 1);
        x.set(3, 451);
        dueTree("both, one by one", x, 1, 2, 2, 2, 1, 0, 1);
        CallOpener two = counted("fun m(){a=p();b=p();}fun p(){a=q();c=q();}fun q(){" + IF.repeat(6) + "}", 0);
        two.set(3, 167);
        dueTree("four below, two stay", two, 3, 6, 4, 4, 2 + 8, 1, 4);
        two.set(3, 500);
        dueTree("all", two, 1, 6, 6, 6, 2, 0, 2);
    }

    private static void norIsAnyBelow() {
        Check.about("Terms", "(it and all below that are there yet) .. is no NODE any more, nor is any below");
        // p gains COST - 8 for 12, q COST for 0
        CallOpener x = counted("fun m(){a=p();}fun p(){a=b+c;d=e+f;g=h;h=q();}fun q(){}", 0);
        x.set(1, 4);
        x.set(3, 0);
        dueTree("a chain of 0 by 0", x, 3, 2, 0, 0, 13, 2, 0);
        x.set(3, 1);
        dueTree("a chain of 0 by 1", x, 1, 2, 2, 1, 1, 0, 1);
        Check.due("the lower one, too", x.opened(0, 1), 0);
        Check.due("left is the upper one", x.left(0, 0, 0), 0);
        Check.due("and it alone", x.left(0, 1, 0), -1);
        Check.due("gain of all that were opened", x.gain(0, true), 0);
        x.set(1, 3);
        x.set(3, 0);
        dueTree("a chain of -2 by 0", x, 1, 2, 2, 1, 1, 0, 1);
        Check.due("gain of all that were opened", x.gain(0, true), -2);
        Check.due("gain of node 0 alone", x.gain(0, false), 0);
        // p gains 2 for 12, q below it 50 for 3: it is below 347 with the ADDS of both alone
        CallOpener z = counted("fun m(){a=p();}fun p(){a=b+c;d=e+f;g=h;loop 5{h=q();}}fun q(){" + IF.repeat(3) + "}", 0);
        z.set(3, 325);
        dueTree("a chain of 52 for 16 by 325", z, 3, 2, 0, 0, 17, 2, 0);
        z.set(3, 326);
        dueTree("a chain of 52 for 16 by 326", z, 1, 2, 2, 1, 1, 0, 1);
        x.set(1, 5);
        x.set(3, 16);
        dueTree("a chain of 2 for 12 by 16", x, 3, 2, 0, 0, 13, 2, 0);
        x.set(3, 17);
        dueTree("a chain of 2 for 12 by 17", x, 1, 2, 2, 1, 1, 0, 1);
    }

    // ---- asking

    private static void treeWhat0To6() {
        Check.about("Promise 12", "THE TREE of a ROOT behind UNDOING .. 5 the greatest depth (0: NODE 0 alone) .. NONE: no such ones");
        CallOpener x = counted(CHAIN, 0);
        dueTree("tree", x, 3, 2, 0, 0, 9, 2, 0, -1);
        Check.dueAll("of q", w -> x.tree(2, w), 1, 0, 0, 0, 6, 0, 0, -1);
        Check.dueRange("tree of f", f -> x.tree(f, 0), 0, 2, -1);
        Check.dueRange("tree what", w -> x.tree(0, w), 0, 6, -1);
        Check.due("tree of none", new CallOpener().tree(0, 0), -1);
        x.set(3, 167);
        dueTree("the depth that is left", x, 2, 2, 1, 1, 3, 1, 1);
        // 16 calls, 14 fit; each of them has 16 of heat 0
        CallOpener y = counted("fun f(n){if n{n=n-1;" + "x=f(n);".repeat(16) + "}}", 1);
        y.set(0, 300);
        y.set(3, 0);
        dueTree("many", y, 15, 14, 0, 0, 18 + 14 * 20, 1, 2 + 14 * 16);
        y.set(2, 0);
        dueTree("none", y, 1, 0, 0, 0, 18, 0, 16);
    }

    private static void gainOfAll() {
        Check.about("Promise 13", "GAIN of all NODES together behind UNDOING (all false), of all that were OPENED (true);"
            + " Long.MIN_VALUE: no such ROOT");
        CallOpener x = counted(CHAIN, 0);
        Check.due("all", x.gain(0, true), 19);
        Check.due("behind undoing", x.gain(0, false), 19);
        x.set(3, 167);
        Check.due("all", x.gain(0, true), 19);
        Check.due("behind undoing", x.gain(0, false), 9);
        x.set(3, 451);
        Check.due("all", x.gain(0, true), 19);
        Check.due("behind undoing", x.gain(0, false), 0);
        Check.dueRange("gain", f -> x.gain(f, true), 0, 2, NO);
        Check.dueRange("gain", f -> x.gain(f, false), 0, 2, NO);
        Check.due("gain of none", new CallOpener().gain(0, false), NO);
    }

    private static void nodeOfTheOrder() {
        Check.about("Promise 14", "in the order of RESULT's text (0; then those of a NODE, each with its own, from the left),"
            + " what 0 its SITE (-2 of 0) .. NONE: no such ones");
        CallOpener x = counted("fun m(){if 0{a=p();}b=q();c=p();}fun p(){d=q();e=q();}fun q(){f=1;}", 0);
        Check.dueAll("node 0", w -> x.node(0, 0, w), -2, 0, -2, 0, 0, 5, -1);
        Check.dueAll("node 1", w -> x.node(0, 1, w), 1, 2, 0, 1, 1, 1, -1);
        Check.dueAll("node 2", w -> x.node(0, 2, w), 2, 1, 0, 1, 2, 3, -1);
        Check.dueAll("node 3", w -> x.node(0, 3, w), 3, 2, 2, 2, 3, 1, -1);
        Check.dueAll("node 4", w -> x.node(0, 4, w), 4, 2, 2, 2, 4, 1, -1);
        Check.dueRange("node i", i -> x.node(0, i, 1), 0, 4, -1);
        Check.dueRange("node what", w -> x.node(0, 4, w), 0, 5, -1);
        Check.dueRange("node of f", f -> x.node(f, 0, 1), 0, 2, -1);
        Check.due("node of none", new CallOpener().node(0, 0, 0), -1);
        x.set(0, 0);
        Check.dueAll("node 0 alone", w -> x.node(0, 0, w), -2, 0, -2, 0, 0, 1, -1);
        Check.due("no node 1", x.node(0, 1, 0), -1);
        CallOpener y = counted(CHAIN, 0);
        y.set(3, 167);
        Check.dueAll("opened as the first of two", w -> y.node(0, 1, w), 0, 1, 0, 1, 1, 1, -1);
        Check.due("no node 2", y.node(0, 2, 0), -1);
    }

    private static void worthOfTheNode() {
        Check.about("Promise 15", "what 0 HEAT, 1 WORTH (of its CALL; 0 of NODE 0), 2 GAIN, 3 GAIN of its CHAIN; Long.MIN_VALUE: no such ones");
        CallOpener x = counted(CHAIN, 0);
        x.counted(0);
        Check.dueLongs("node 0", w -> x.worth(0, 0, w), 2, 0, 0, 38, NO);
        Check.dueLongs("node 1", w -> x.worth(0, 1, w), 2, 640, 18, 38, NO);
        Check.dueLongs("node 2", w -> x.worth(0, 2, w), 2, 213, 20, 20, NO);
        Check.dueRange("worth i", i -> x.worth(0, i, 0), 0, 2, NO);
        Check.dueRange("worth what", w -> x.worth(0, 2, w), 0, 3, NO);
        Check.dueRange("worth of f", f -> x.worth(f, 0, 0), 0, 2, NO);
        Check.due("worth of none", new CallOpener().worth(0, 0, 0), NO);
    }

    private static void openedHowOften() {
        Check.about("Promise 16", "Whether a SITE is OPENED somewhere in THE TREE behind UNDOING, how often; NONE: no such ones");
        CallOpener x = counted("fun m(){a=p();b=p();}fun p(){a=q();c=q();}fun q(){" + IF.repeat(6) + "}", 0);
        int[] often = {1, 1, 2, 2};
        for (int s = 0; s < 4; s++) {
            Check.due("opened " + s, x.opened(0, s), often[s]);
        }
        Check.due("not in this tree", x.opened(1, 0), 0);
        Check.due("once in this tree", x.opened(1, 2), 1);
        Check.dueRange("opened s", s -> x.opened(0, s), 0, 3, -1);
        Check.dueRange("opened f", f -> x.opened(f, 0), 0, 2, -1);
        x.set(3, 167);
        Check.due("undone", x.opened(0, 3), 0);
        Check.due("not undone", x.opened(0, 1), 1);
        Check.due("opened of none", new CallOpener().opened(0, 0), -1);
    }

    private static void wouldByOtherSettings() {
        Check.about("Promise 23", "tree() of a ROOT if SETTING k were v; NONE: no such ones");
        CallOpener x = counted(CHAIN, 0);
        int[] least = {0, 1, 0, 0};
        int[] most = {300, 50, 3, 500};
        for (int k = 0; k < 4; k++) {
            int setting = k;
            Check.dueRange("would " + k, v -> x.would(0, setting, v, 0), least[k], most[k], -1);
        }
        Check.dueRange("would k", k -> x.would(0, k, 1, 0), 0, 3, -1);
        Check.dueRange("would f", f -> x.would(f, 0, 100, 0), 0, 2, -1);
        Check.dueRange("would what", w -> x.would(0, 0, 100, w), 0, 6, -1);
        Check.dueAll("as it is", w -> x.would(0, 0, 100, w), 3, 2, 0, 0, 9, 2, 0, -1);
        Check.dueAll("budget 8", w -> x.would(0, 0, 8, w), 2, 1, 0, 0, 3, 1, 1, -1);
        Check.dueAll("budget 9", w -> x.would(0, 0, 9, w), 3, 2, 0, 0, 9, 2, 0, -1);
        Check.dueAll("rate 167", w -> x.would(0, 3, 167, w), 2, 2, 1, 1, 3, 1, 1, -1);
        Check.dueAll("cost 1", w -> x.would(0, 1, 1, w), 1, 2, 2, 2, 1, 0, 1, -1);
        dueTree("the tree is as it was", x, 3, 2, 0, 0, 9, 2, 0);
        x.set(3, 167);
        Check.due("rate 0 alone", x.would(0, 3, 0, 0), 3);
        Check.due("cost 50 alone", x.would(0, 1, 50, 0), 3);
        Check.due("the tree is as it was", x.tree(0, 0), 2);
        Check.due("the setting is as it was", x.set(3, 100), 167);
        CallOpener y = counted(TURNS, 20);
        for (int recursion = 0; recursion <= 3; recursion++) {
            Check.due("recursion " + recursion, y.would(0, 2, recursion, 0), 2 + 2 * recursion);
        }
        Check.due("would of none", new CallOpener().would(0, 0, 0, 0), -1);
    }

    private static void whyLeft() {
        Check.about("Promise 24", "1 why it is left (1 HEAT 0, else 2 RECURSION, else 3 it was never OPENED, by BUDGET; 4 it was undone)");
        CallOpener cold = Check.with(DOWN);
        cold.set(2, 0);
        cold.set(0, 0);
        Check.dueAll("heat 0, recursion and budget, too", w -> cold.left(0, 0, w), 0, 1, 0, -1);
        CallOpener x = counted(DOWN, 5);
        x.set(2, 0);
        x.set(0, 0);
        Check.due("recursion, budget, too", x.left(0, 0, 1), 2);
        x.set(2, 1);
        Check.due("budget", x.left(0, 0, 1), 3);
        x.set(0, 7);
        Check.due("budget", x.left(0, 0, 1), 3);
        x.set(0, 8);
        Check.due("opened, then recursion", x.left(0, 0, 1), 2);
        Check.due("of node 1", x.left(0, 0, 2), 1);
        x.set(3, 500);
        x.set(1, 1);
        Check.due("undone", x.left(0, 0, 1), 4);
        Check.due("of node 0", x.left(0, 0, 2), 0);
        // a gains -7 for 10 and goes, s would have room then, but OPENING is over
        CallOpener y = counted("fun m(){a=p(1,2,3);b=s();}fun p(x,y,z){c=d+e;f=g;}fun s(){" + IF.repeat(4) + "}", 0);
        y.set(1, 1);
        y.set(3, 0);
        y.set(0, 15);
        dueTree("p alone, undone", y, 1, 1, 1, 1, 2, 0, 2);
        Check.dueAll("p was undone", w -> y.left(0, 0, w), 0, 4, 0, -1);
        Check.dueAll("s was never opened", w -> y.left(0, 1, w), 1, 3, 0, -1);
        y.set(0, 16);
        dueTree("both, p undone", y, 2, 2, 1, 1, 6, 1, 1);
        Check.due("p was undone", y.left(0, 0, 1), 4);
    }

    private static void leftAsTheyStand() {
        Check.about("Promise 24", "Of the i-th CALL left in THE RESULT (as they stand), what 0 its SITE .. 2 the NODE it is of; NONE: no such ones");
        CallOpener x = counted("fun m(){a=q();b=p();c=q();}fun p(){d=q();if 0{e=r();}}fun q(){" + IF.repeat(9) + "}fun r(){}", 0);
        x.set(0, 3 + 5);
        int[] sites = {0, 3, 4, 2};
        int[] whys = {3, 3, 1, 3};
        int[] nodes = {0, 1, 1, 0};
        for (int i = 0; i < 4; i++) {
            Check.due("site of " + i, x.left(0, i, 0), sites[i]);
            Check.due("why " + i, x.left(0, i, 1), whys[i]);
            Check.due("node of " + i, x.left(0, i, 2), nodes[i]);
        }
        Check.dueRange("left i", i -> x.left(0, i, 0), 0, 3, -1);
        Check.dueRange("left what", w -> x.left(0, 1, w), 0, 2, -1);
        Check.dueRange("left f", f -> x.left(f, 0, 0), 0, 1, -1);
        Check.due("none is left of q", x.left(2, 0, 0), -1);
        Check.due("none is left", x.would(0, 0, 300, 6), 1);
        Check.due("left of none", new CallOpener().left(0, 0, 0), -1);
    }

    private static void swapNumbers() {
        Check.about("Promise 25", "FUNCTIONS f and g change their numbers (all else of them, LINES, SITES, ENTRIES, COUNTS, is as it was):"
            + " 1, 0 if they are one; NONE: no such ones");
        CallOpener x = counted("fun main(n){a=ab(n,1);}fun ab(p,q){b=g();c=ab(p,q);}fun g(){give 7;}".replace("c=ab(p,q);", ""), 4);
        int[][] none = {{-1, 0}, {0, -1}, {3, 0}, {0, 3}, {3, 3}, {-1, -1}, {Integer.MIN_VALUE, 0}, {0, Integer.MAX_VALUE}};
        for (int[] fg : none) {
            Check.due("swap " + fg[0] + " " + fg[1], x.swap(fg[0], fg[1]), -1);
        }
        for (int f = 0; f < 3; f++) {
            Check.due("they are one", x.swap(f, f), 0);
        }
        Check.dueAll("main", w -> x.function(0, w), 1, 2, 1, 1, 1, 3, 0, 0, 4, 'm', 'a', 'i', 'n', -1);
        Check.due("tree", x.tree(0, 0), 3);
        Check.due("result", x.result(0, 1), 5);
        Check.due("swap", x.swap(0, 2), 1);
        Check.dueAll("g", w -> x.function(0, w), 0, 0, 1, 0, 1, 0, 1, 0, 1, 'g', -1);
        Check.dueAll("ab", w -> x.function(1, w), 2, 3, 1, 1, 1, 4, 0, 0, 2, 'a', 'b', -1);
        Check.dueAll("main", w -> x.function(2, w), 1, 2, 1, 1, 1, 3, 0, 0, 4, 'm', 'a', 'i', 'n', -1);
        Check.dueAll("site 0", w -> x.site(0, w), 2, 1, 1, 0, 0, 0, 1, -1);
        Check.dueAll("site 1", w -> x.site(1, w), 1, 0, 1, 0, 0, 1, 2, -1);
        Check.due("tree of g", x.tree(0, 0), 1);
        Check.due("result of g", x.result(0, 1), 0);
        Check.due("tree of main", x.tree(2, 0), 3);
        Check.due("its last node's function", x.node(2, 2, 1), 0);
        Check.due("run of g", x.run(0, 1), 7);
        Check.due("run of main", x.run(2, 3), 2);
        Check.due("count", x.count(4), 3);
        Check.due("swap", x.swap(2, 1), 1);
        Check.due("main is 1", x.function(1, 9), 'm');
        Check.due("ab is 2", x.function(2, 9), 'a');
        Check.dueAll("site 0", w -> x.site(0, w), 1, 2, 1, 0, 0, 0, 1, -1);
        Check.due("swap of none", new CallOpener().swap(0, 0), -1);
    }

    private static void swapEntries() {
        Check.about("Promise 25", "all else of them, LINES, SITES, ENTRIES, COUNTS, is as it was");
        CallOpener x = counted("fun m(n){loop n{a=p();}}fun p(){b=1;}", 7);
        x.swap(0, 1);
        Check.due("entries of p", x.function(0, 4), 7);
        Check.due("entries of m", x.function(1, 4), 1);
        Check.due("count", x.site(0, 2), 7);
        Check.due("heat of node 0", x.worth(1, 0, 0), 1);
        Check.due("heat of p", x.worth(1, 1, 0), 7);
        Check.due("counted", x.counted(0), 0);
        Check.due("entries of p", x.function(0, 4), 8);
        Check.due("forget", x.forget(), 9);
    }

    /** What was told of one state is not told of the next. */
    private static void alwaysOfTheLatest() {
        Check.about("Promises 3, 9 to 11, 25", "is .. from now on");
        CallOpener x = Check.with("fun f(n){loop n{x=g();}}fun g(){}");
        Check.due("cold", x.result(0, 2), 1);
        x.argument(0, 1);
        x.counted(0);
        Check.due("counted", x.result(0, 2), 0);
        x.forget();
        Check.due("forgotten", x.result(0, 2), 1);
        x.counted(0);
        Check.due("counted", x.tree(0, 0), 2);
        x.set(0, 0);
        Check.due("set", x.tree(0, 0), 1);
        Check.due("set", x.result(0, 2), 1);
        x.set(0, 100);
        Check.due("set", x.result(0, 2), 0);
        Check.due("lines", x.result(0, 0), 2);
        x.swap(0, 1);
        Check.due("swapped", x.result(0, 0), 0);
        Check.due("swapped", x.result(1, 0), 2);
        Check.tell(x, "fun f(){}fun h(){x=1;x=2;x=3;}");
        Check.due("another program", x.result(1, 0), 3);
        Check.due("another program", x.tree(1, 4), 3);
        Check.due("another root", x.result(0, 0), 0);
        CallOpener y = counted("fun m(){a=p();b=p();}fun p(){a=q();b=q();}fun q(){a=1;}", 0);
        y.set(2, 0);
        Check.dueAll("a large tree", w -> y.tree(0, w), 7, 6, 0, 0, 2 + 8 + 8, 2, 0);
        Check.dueAll("a small one behind it", w -> y.tree(1, w), 3, 2, 0, 0, 6, 1, 0);
        Check.dueAll("a smaller one", w -> y.tree(2, w), 1, 0, 0, 0, 1, 0, 0);
        Check.dueAll("the large one again", w -> y.tree(0, w), 7, 6, 0, 0, 2 + 8 + 8, 2, 0);
        y.set(0, 0);
        Check.due("calls that are left", y.tree(0, 6), 2);
        y.set(0, 100);
        Check.dueAll("none of them in another tree", w -> y.tree(2, w), 1, 0, 0, 0, 1, 0, 0);
    }

    public static void main(String[] args) {
        heatOfTheRoot();
        heatOfCallsIsCut();
        addsAndAdds0();
        worthByNumbers();
        gainOfNodes();
        wholeNumbersOf64Bits();
        openedByHeat1();
        openedByRecursion();
        openedByBudget();
        worthiestThatFits();
        likeOnesLessDeep();
        likeOnesByPath();
        undoneBelowRate();
        thoseBelowAhead();
        norIsAnyBelow();
        treeWhat0To6();
        gainOfAll();
        nodeOfTheOrder();
        worthOfTheNode();
        openedHowOften();
        wouldByOtherSettings();
        whyLeft();
        leftAsTheyStand();
        swapNumbers();
        swapEntries();
        alwaysOfTheLatest();
        Check.end("TreeBoundsTest");
    }
}
