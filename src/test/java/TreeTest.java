/** Promises 12 to 16 and 22 to 25: THE TREE, what might be, FUNCTIONS that change places. */
public final class TreeTest {
    private static final long NO = Long.MIN_VALUE;
    /** ADDS 6, 6, 2; run with 5: ENTRIES 1, 5, 10, each SITE 5 times. */
    private static final String THREE = "fun m(n){loop n{a=p(a,1);b=q();}give a;}"
        + "fun p(x,y){z=x+y;w=q();give z;}fun q(){r=1;give r;}";
    private static final String DOWN = "fun f(n){c=0<n;if c{m=n-1;r=f(m);}give r;}";

    private static CallOpener countedWith(String text, int argument) {
        CallOpener x = Check.with(text);
        x.argument(0, argument);
        Check.due("counted", x.counted(0), 0);
        return x;
    }

    private static void dueTree(String name, CallOpener x, long... wants) {
        Check.dueAll(name, w -> x.tree(0, w), wants);
    }

    private static void promise12Tree() {
        CallOpener x = countedWith(THREE, 5);
        dueTree("all opened", x, 4, 3, 0, 0, 14, 2, 0, -1);
        x.set(0, 14);
        dueTree("just enough", x, 4, 3, 0, 0, 14, 2, 0);
        x.set(0, 13);
        dueTree("the last too much", x, 3, 2, 0, 0, 12, 1, 1);
        x.set(0, 11);
        dueTree("the first alone", x, 2, 1, 0, 0, 6, 1, 1);
        x.set(0, 5);
        dueTree("none", x, 1, 0, 0, 0, 4, 0, 2);
        x.set(0, 0);
        dueTree("none", x, 1, 0, 0, 0, 4, 0, 2);
        Check.due("no such function", x.tree(3, 0), -1);
        Check.due("no such function", x.tree(-1, 0), -1);
        Check.due("no such what", x.tree(0, -1), -1);
        CallOpener cold = Check.with(THREE);
        dueTree("never run", cold, 1, 0, 0, 0, 4, 0, 2);
    }

    private static void undoing() {
        CallOpener x = countedWith(THREE, 5);
        x.set(1, 1);
        dueTree("all undone, one by one", x, 1, 3, 3, 3, 4, 0, 2);
        Check.due("gain of all", x.gain(0, true), -15);
        Check.due("gain", x.gain(0, false), 0);
        x.set(3, 0);
        dueTree("a chain of two undone", x, 2, 3, 2, 1, 6, 1, 1);
        Check.due("the second opened is left", x.node(0, 1, 4), 2);
        Check.due("its site", x.node(0, 1, 0), 1);
        // p gains 5 * (4 - 4), q below it 5 * 3: 1500 by 8 ADDS is less than 188 a piece, not than 187
        x.set(1, 4);
        x.set(3, 187);
        dueTree("the chain pays", x, 4, 3, 0, 0, 14, 2, 0);
        x.set(3, 188);
        dueTree("the chain does not pay", x, 2, 3, 2, 1, 6, 1, 1);
    }

    private static void recursionAndHeat() {
        CallOpener x = countedWith(DOWN, 9);
        dueTree("recursion 1", x, 2, 1, 0, 0, 13, 1, 1);
        Check.due("why", x.left(0, 0, 1), 2);
        x.set(2, 0);
        dueTree("recursion 0", x, 1, 0, 0, 0, 5, 0, 1);
        x.set(2, 3);
        dueTree("recursion 3", x, 4, 3, 0, 0, 29, 3, 1);
        long[] heats = {10, 9, 8, 7};
        for (int i = 0; i < 4; i++) {
            Check.due("heat", x.worth(0, i, 0), heats[i]);
        }
        CallOpener y = Check.with("fun m(){x=g(1);}fun g(p){if p{y=h();}}fun h(){}");
        y.counted(0);
        dueTree("hot", y, 3, 2, 0, 0, 1 + 4, 2, 0);
        y.forget();
        y.counted(1);
        y.counted(0);
        dueTree("heat 1 by 2 is cut to 0", y, 2, 1, 0, 0, 5, 1, 1);
        Check.due("why", y.left(0, 0, 1), 1);
        Check.due("of node 1", y.left(0, 0, 2), 1);
        CallOpener z = countedWith("fun a(){b=c();}fun c(){give 1;}", 0);
        Check.dueLongs("adds 0", w -> z.worth(0, 1, w), 1, 640, 10, 10);
        z.set(0, 1);
        dueTree("adds 0 within the budget", z, 2, 1, 0, 0, 1, 1, 0);
        z.set(0, 0);
        dueTree("root's lines above the budget", z, 1, 0, 0, 0, 1, 0, 1);
    }

    private static void likeOnes() {
        // like worth: the less deep ahead, then from the left
        CallOpener x = countedWith("fun a(){d=b();e=c();f=c();}fun b(){g=c();h=c();}fun c(){i=1;j=1;}", 0);
        int[] orders = {0, 1, 4, 5, 2, 3};
        for (int i = 0; i < orders.length; i++) {
            Check.due("order of node " + i, x.node(0, i, 4), orders[i]);
        }
        x.set(0, 3 + 4 + 4 + 4 + 4);
        Check.due("budget for one below", x.tree(0, 0), 5);
        Check.due("the left one", x.node(0, 2, 0), 3);
        Check.due("the right one is left", x.left(0, 0, 0), 4);
        Check.due("why", x.left(0, 0, 1), 3);
    }

    private static void promise13Gain() {
        CallOpener x = countedWith(THREE, 5);
        Check.due("gain", x.gain(0, false), 120);
        Check.due("gain of all", x.gain(0, true), 120);
        Check.due("gain of q", x.gain(2, true), 0);
        Check.due("no such root", x.gain(3, true), NO);
        Check.due("no such root", x.gain(-1, false), NO);
    }

    private static void promise14Node() {
        CallOpener x = countedWith(THREE, 5);
        Check.dueAll("node 0", w -> x.node(0, 0, w), -2, 0, -2, 0, 0, 4, -1);
        Check.dueAll("node 1", w -> x.node(0, 1, w), 0, 1, 0, 1, 2, 2, -1);
        Check.dueAll("node 2", w -> x.node(0, 2, w), 2, 2, 1, 2, 3, 1, -1);
        Check.dueAll("node 3", w -> x.node(0, 3, w), 1, 2, 0, 1, 1, 1, -1);
        Check.due("no such node", x.node(0, 4, 0), -1);
        Check.due("no such node", x.node(0, -1, 0), -1);
        Check.due("no such root", x.node(3, 0, 0), -1);
        Check.due("no such what", x.node(0, 0, -1), -1);
        Check.dueAll("root p", w -> x.node(1, 1, w), 2, 2, 0, 1, 1, 1, -1);
    }

    private static void promise15Worth() {
        CallOpener x = countedWith(THREE, 5);
        Check.dueLongs("node 0", w -> x.worth(0, 0, w), 1, 0, 0, 120, NO);
        Check.dueLongs("node 1", w -> x.worth(0, 1, w), 5, 640, 30, 75, NO);
        Check.dueLongs("node 2", w -> x.worth(0, 2, w), 5, 1600, 45, 45, NO);
        Check.dueLongs("node 3", w -> x.worth(0, 3, w), 5, 1600, 45, 45, NO);
        Check.due("no such node", x.worth(0, 4, 0), NO);
        Check.due("no such node", x.worth(0, -1, 0), NO);
        Check.due("no such root", x.worth(3, 0, 0), NO);
        Check.due("no such what", x.worth(0, 0, -1), NO);
    }

    private static void promise16Opened() {
        CallOpener x = countedWith(DOWN, 9);
        Check.due("once", x.opened(0, 0), 1);
        x.set(2, 3);
        Check.due("three times", x.opened(0, 0), 3);
        x.set(2, 0);
        Check.due("never", x.opened(0, 0), 0);
        Check.due("no such site", x.opened(0, 1), -1);
        Check.due("no such site", x.opened(0, -1), -1);
        Check.due("no such root", x.opened(1, 0), -1);
        CallOpener y = countedWith(THREE, 5);
        y.set(1, 1);
        Check.due("undone ones don't count", y.opened(0, 1), 0);
    }

    private static void dueBest(CallOpener x, int room, long gain, long adds) {
        Check.due("best gain for " + room, x.best(0, room, 0), gain);
        Check.due("best adds for " + room, x.best(0, room, 1), adds);
    }

    private static void promise22Best() {
        CallOpener x = countedWith(THREE, 5);
        dueBest(x, 0, 0, 0);
        dueBest(x, 1, 0, 0);
        dueBest(x, 2, 45, 2);
        dueBest(x, 7, 45, 2);
        dueBest(x, 8, 75, 8);
        dueBest(x, 9, 75, 8);
        dueBest(x, 10, 120, 10);
        dueBest(x, 300, 120, 10);
        Check.due("calls", x.best(0, 0, 2), 3);
        CallOpener y = countedWith("fun a(){b=c();}fun c(){}", 0);
        dueBest(y, 0, 10, 0);
        x.set(1, 3);
        dueBest(x, 8, 10, 2);
        dueBest(x, 10, 15, 10);
        x.set(1, 1);
        dueBest(x, 300, 0, 0);
        x.set(0, 0);
        Check.due("by heat and recursion alone", x.best(0, 0, 2), 3);
        Check.due("no such room", x.best(0, 301, 0), NO);
        Check.due("no such room", x.best(0, -1, 0), NO);
        Check.due("no such what", x.best(0, 0, 3), NO);
        Check.due("no such what", x.best(0, 0, -1), NO);
        Check.due("no such root", x.best(3, 0, 0), NO);
    }

    private static void bestOfMany() {
        CallOpener x = Check.with("fun f(n){if n{n=n-1;a=f(n);a=f(n);a=f(n);}}");
        x.set(1, 1);
        x.argument(0, 5);
        Check.due("counted", x.counted(0), 0);
        x.set(1, 10);
        Check.due("recursion 1: first ones", x.best(0, 0, 2), 3);
        x.set(2, 3);
        Check.due("of 39 the first 32", x.best(0, 0, 2), 32);
        dueBest(x, 14, 2 * 968, 14);
        dueBest(x, 27, 3 * 968, 21);
        dueBest(x, 28, 3 * 968 + 320, 28);
        dueBest(x, 300, 3 * 968 + 9 * 320 + 20 * 104, 224);
        x.set(2, 0);
        Check.due("recursion 0", x.best(0, 0, 2), 0);
    }

    private static void promise23Would() {
        CallOpener x = countedWith(THREE, 5);
        Check.dueAll("would budget 13", w -> x.would(0, 0, 13, w), 3, 2, 0, 0, 12, 1, 1, -1);
        Check.dueAll("would cost 1", w -> x.would(0, 1, 1, w), 1, 3, 3, 3, 4, 0, 2, -1);
        dueTree("as it was", x, 4, 3, 0, 0, 14, 2, 0);
        Check.due("result as it was", x.result(0, 0), 14);
        Check.due("would", x.would(0, 0, 0, 0), 1);
        Check.due("result as it was", x.result(0, 0), 14);
        Check.due("no such setting", x.would(0, 4, 0, 0), -1);
        Check.due("no such setting", x.would(0, -1, 0, 0), -1);
        Check.due("no such value", x.would(0, 1, 0, 0), -1);
        Check.due("no such value", x.would(0, 0, 301, 0), -1);
        Check.due("no such what", x.would(0, 0, 0, 7), -1);
        Check.due("no such root", x.would(3, 0, 0, 0), -1);
        Check.due("settings stay", x.set(0, 100), 100);
        CallOpener y = countedWith(DOWN, 9);
        Check.due("would recursion 3", y.would(0, 2, 3, 0), 4);
        Check.due("would rate 500", y.would(0, 3, 500, 2), 0);
    }

    private static void promise24Left() {
        CallOpener x = countedWith(THREE, 5);
        Check.due("none left", x.left(0, 0, 0), -1);
        x.set(0, 13);
        Check.dueAll("by budget", w -> x.left(0, 0, w), 2, 3, 1, -1);
        x.set(0, 100);
        x.set(1, 1);
        Check.dueAll("undone", w -> x.left(0, 0, w), 0, 4, 0, -1);
        Check.dueAll("undone", w -> x.left(0, 1, w), 1, 4, 0, -1);
        Check.due("no such call", x.left(0, 2, 0), -1);
        Check.due("no such call", x.left(0, -1, 0), -1);
        Check.due("no such what", x.left(0, 0, -1), -1);
        Check.due("no such root", x.left(3, 0, 0), -1);
        CallOpener cold = Check.with(DOWN);
        cold.set(2, 0);
        Check.dueAll("heat ahead of recursion", w -> cold.left(0, 0, w), 0, 1, 0, -1);
        // between calls of node 0 stands one of node 1
        CallOpener y = countedWith("fun a(){b=c();d=e();b=c();}fun e(){f=c();}fun c(){g=1;h=1;i=1;j=1;k=1;l=1;}", 0);
        y.set(0, 5);
        int[] sites = {0, 3, 2};
        int[] nodes = {0, 1, 0};
        for (int i = 0; i < 3; i++) {
            Check.dueAll("left " + i, one(y, i), sites[i], 3, nodes[i]);
        }
    }

    private static java.util.function.IntUnaryOperator one(CallOpener x, int i) {
        return w -> x.left(0, i, w);
    }

    private static void promise25Swap() {
        CallOpener x = countedWith(THREE, 5);
        Check.due("one", x.swap(1, 1), 0);
        Check.due("no such one", x.swap(0, 3), -1);
        Check.due("no such one", x.swap(-1, 0), -1);
        Check.due("swap", x.swap(0, 2), 1);
        Check.dueAll("q", w -> x.function(0, w), 0, 1, 2, 0, 10, 2, 1, 0, 1, 'q', -1);
        Check.dueAll("m", w -> x.function(2, w), 1, 3, 4, 2, 1, 6, 1, 0, 1, 'm', -1);
        Check.dueAll("site 0", w -> x.site(0, w), 2, 1, 5, 1, 0, 1, 1);
        Check.dueAll("site 1", w -> x.site(1, w), 2, 0, 5, 1, 0, 2, 2);
        Check.dueAll("site 2", w -> x.site(2, w), 1, 0, 5, 0, 0, 5, 3);
        Check.due("run", x.run(2, 1), 5);
        Check.dueAll("tree", w -> x.tree(2, w), 4, 3, 0, 0, 14, 2, 0, -1);
        Check.due("function of node 2", x.node(2, 2, 1), 0);
        Check.due("tree of q", x.tree(0, 0), 1);
        x.set(0, 0);
        Check.due("function called", x.line(2, 2, 5), 0);
        Check.due("back", x.swap(2, 0), 1);
        Check.due("as before", x.site(0, 0), 0);
    }

    public static void main(String[] args) {
        promise12Tree();
        undoing();
        recursionAndHeat();
        likeOnes();
        promise13Gain();
        promise14Node();
        promise15Worth();
        promise16Opened();
        promise22Best();
        bestOfMany();
        promise23Would();
        promise24Left();
        promise25Swap();
        Check.end("TreeTest");
    }
}
