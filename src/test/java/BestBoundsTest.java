/** The bounds of BEST: "Terms" and promise 22. Each function stands for the sentence that its first line names. */
public final class BestBoundsTest {
    private static final long NO = Long.MIN_VALUE;
    private static final String IF = "if 1{}";

    private static void dueBest(String name, CallOpener x, int room, long gain, long adds) {
        Check.due(name + ": gain for " + room, x.best(0, room, 0), gain);
        Check.due(name + ": adds for " + room, x.best(0, room, 1), adds);
    }

    private static void dueMany(String text, int argument, int many) {
        CallOpener x = Check.countedWith(text, argument);
        Check.due("calls [" + text + "]", x.best(0, 0, 2), many);
    }

    private static void addsOfTheRoomAtMost() {
        Check.about("Terms", "of all sets of CALLS .. of ADDS together R at most: the greatest GAIN (0 of none)");
        // ADDS 4 and 6, gains 10 and 9 * 2
        CallOpener x = Check.countedWith("fun m(){a=p();loop 2{b=q();}}fun p(){" + IF.repeat(4) + "}fun q(){a=1;" + IF.repeat(4) + "}", 0);
        dueBest("nothing fits", x, 0, 0, 0);
        dueBest("nothing fits", x, 3, 0, 0);
        dueBest("the small one", x, 4, 10, 4);
        dueBest("the small one", x, 5, 10, 4);
        dueBest("the large one", x, 6, 18, 6);
        dueBest("the large one", x, 9, 18, 6);
        dueBest("both", x, 10, 28, 10);
        dueBest("both", x, 11, 28, 10);
        dueBest("both", x, 299, 28, 10);
        dueBest("both", x, 300, 28, 10);
        CallOpener cold = Check.with("fun m(){a=p();}fun p(){}");
        dueBest("no heat", cold, 300, 0, 0);
        Check.due("none", cold.best(0, 300, 2), 0);
        CallOpener none = Check.countedWith("fun m(){}", 0);
        dueBest("no calls", none, 300, 0, 0);
        CallOpener adds0 = Check.countedWith("fun m(){a=p();b=p();}fun p(){}", 0);
        dueBest("adds 0", adds0, 0, 20, 0);
        CallOpener less = Check.countedWith("fun m(){a=p();}fun p(){a=b+c;}", 0);
        less.set(1, 2);
        dueBest("gain less than 0", less, 300, 0, 0);
        less.set(1, 3);
        dueBest("gain 0", less, 300, 0, 0);
        less.set(1, 4);
        dueBest("gain 1", less, 3, 0, 0);
        dueBest("gain 1", less, 4, 1, 4);
        // ADDS 300 together, no more fit
        CallOpener full = Check.countedWith("fun m(){" + "a=p();".repeat(11) + "}fun p(){" + IF.repeat(30) + "}", 0);
        dueBest("nine of eleven", full, 299, 90, 270);
        dueBest("ten of eleven", full, 300, 100, 300);
    }

    private static void leastAdds() {
        Check.about("Terms", "and the least ADDS by which it is so");
        // 9 for 4 together with 9 for 4 is as much as 18 for 8, or as 18 for 7
        CallOpener x = Check.countedWith("fun m(){a=p();b=p();loop 2{c=q();}}fun p(){x=1;" + IF.repeat(2) + "}fun q(){x=1;" + IF.repeat(5) + "}", 0);
        dueBest("one of 9", x, 6, 9, 4);
        dueBest("18 for 7", x, 7, 18, 7);
        dueBest("18 for 7, not for 8", x, 8, 18, 7);
        dueBest("27", x, 11, 27, 11);
        dueBest("36", x, 15, 36, 15);
        // q gains nothing
        CallOpener y = Check.countedWith("fun m(){a=q();b=p();}fun p(){}fun q(){x=y+z;}", 0);
        y.set(1, 3);
        dueBest("what gains nothing stays out", y, 300, 3, 0);
    }

    private static void eachWithItsOwnNode() {
        Check.about("Terms", "each with its own NODE (but 0) in it, too");
        // p gains -2 for 6, q below it 1 for 1, loops three times
        CallOpener x = Check.countedWith("fun m(){a=p();}fun p(){b=c;loop 3{b=q();}}fun q(){" + IF + "}", 0);
        x.set(1, 1);
        dueBest("q alone fits, but p is its node", x, 1, 0, 0);
        dueBest("p alone gains less than nothing", x, 5, 0, 0);
        dueBest("both", x, 6, 2, 6);
        x.set(1, 2);
        dueBest("p gains 0", x, 5, 0, 0);
        dueBest("both", x, 6, 6, 6);
        // three in a chain, the last gains
        CallOpener y = Check.countedWith("fun m(){a=p();}fun p(){a=q();}fun q(){a=r();}fun r(){}", 0);
        y.set(1, 1);
        dueBest("p alone", y, 2, 0, 0);
        dueBest("p and q", y, 3, 0, 0);
        dueBest("p, q and r", y, 4, 1, 4);
        CallOpener z = Check.countedWith("fun m(){a=p();b=q();}fun p(){a=q();b=q();}fun q(){" + IF.repeat(2) + "}", 0);
        dueBest("q of node 0", z, 2, 10, 2);
        dueBest("q of node 0", z, 5, 10, 2);
        dueBest("p with q", z, 6, 18, 6);
        dueBest("p with both q", z, 8, 28, 8);
        dueBest("all", z, 10, 38, 10);
    }

    private static void byHeatAndRecursionAlone() {
        Check.about("Terms", "CALLS that might be OPENED (by HEAT and RECURSION alone)");
        CallOpener x = Check.countedWith("fun f(n){if n{n=n-1;x=f(n);}}", 20);
        for (int recursion = 0; recursion <= 3; recursion++) {
            x.set(2, recursion);
            Check.due("by recursion " + recursion, x.best(0, 0, 2), recursion);
            dueBest("adds 5 each", x, 5 * recursion, 8 * (20 + 19 + 18 - (recursion < 3 ? 18 : 0) - (recursion < 2 ? 19 : 0) - (recursion < 1 ? 20 : 0)), 5 * recursion);
        }
        x.set(0, 0);
        x.set(3, 500);
        Check.due("no budget, the greatest rate", x.best(0, 0, 2), 3);
        dueBest("all the same", x, 15, 8 * 57, 15);
        x.set(1, 1);
        dueBest("cost counts", x, 300, 0, 0);
        Check.due("as many", x.best(0, 0, 2), 3);
        CallOpener y = Check.with("fun r(n){x=m(n);}fun m(n){if n{y=g();}}fun g(){}");
        y.argument(0, 1);
        y.counted(0);
        Check.due("heat 1", y.best(0, 0, 2), 2);
        y.argument(0, 0);
        y.counted(1);
        Check.due("heat 1 by 2 is cut to 0", y.best(0, 0, 2), 1);
        CallOpener turns = Check.countedWith("fun f(n){if n{n=n-1;x=g(n);}}fun g(n){if n{n=n-1;x=f(n);}}", 20);
        for (int recursion = 0; recursion <= 3; recursion++) {
            turns.set(2, recursion);
            Check.due("by turns " + recursion, turns.best(0, 0, 2), 1 + 2 * recursion);
        }
        CallOpener beside = Check.countedWith("fun m(){a=g();a=g();a=h();}fun g(){b=h();}fun h(){}", 0);
        beside.set(2, 0);
        Check.due("beside one another", beside.best(0, 0, 2), 5);
    }

    private static void first32() {
        Check.about("Terms", "of the first 32 by depth, then by PATH; promise 22: 2 how many CALLS might be OPENED (of the first 32)");
        dueMany("fun m(){a=p();}fun p(){" + "a=q();".repeat(5) + "}fun q(){" + "a=r();".repeat(5) + "}fun r(){}", 0, 31);
        dueMany("fun m(){" + "a=p();".repeat(4) + "}fun p(){" + "a=q();".repeat(7) + "}fun q(){}", 0, 32);
        dueMany("fun m(){" + "a=p();".repeat(3) + "}fun p(){" + "a=q();".repeat(10) + "}fun q(){}", 0, 32);
        // of 33 the last by depth and path alone calls r as the tenth of the third: r is the worthiest by far
        CallOpener x = Check.countedWith("fun m(){" + "a=p();".repeat(3) + "}fun p(){" + "a=q();".repeat(9) + "loop 9{a=r();}}fun q(){}fun r(){}", 0);
        x.set(1, 2);
        Check.due("32 of 33", x.best(0, 0, 2), 32);
        // each p: ADDS 12, gain 1, with 9 q of 2 and, but the third, r of 18
        dueBest("one p", x, 12, 37, 12);
        dueBest("two p", x, 24, 74, 24);
        dueBest("three p, the last without r", x, 36, 93, 36);
        CallOpener y = Check.countedWith("fun m(){" + "a=p();".repeat(3) + "}fun p(){" + "a=q();".repeat(8) + "loop 9{a=r();}}fun q(){}fun r(){}", 0);
        y.set(1, 2);
        Check.due("30", y.best(0, 0, 2), 30);
        dueBest("three p, each with r", y, 33, 3 * 35, 33);
        // by depth first: those below the first one come behind the others
        CallOpener z = Check.countedWith("fun m(){" + "a=p();".repeat(8) + "}fun p(){loop 9{a=r();}b=q();b=q();b=q();}fun q(){}fun r(){}", 0);
        z.set(1, 3);
        Check.due("of 40 the first 32", z.best(0, 0, 2), 32);
        dueBest("six p with all of theirs", z, 7 * 6, 6 * (1 + 27 + 9), 7 * 6);
        dueBest("eight p, the others alone", z, 7 * 8, 6 * (1 + 27 + 9) + 2, 7 * 8);
    }

    private static void bestWhat0To2() {
        Check.about("Promise 22", "BEST of a ROOT for a room (0 to 300), what 0 GAIN, 1 ADDS, 2 how many .. Long.MIN_VALUE: no such ones");
        CallOpener x = Check.countedWith("fun m(){a=p();}fun p(){b=1;}", 0);
        Check.dueLongs("best", w -> x.best(0, 2, w), 9, 2, 1, NO);
        Check.dueRange("best room", r -> x.best(0, r, 0), 0, 300, NO);
        Check.dueRange("best room", r -> x.best(0, r, 1), 0, 300, NO);
        Check.dueRange("best room", r -> x.best(0, r, 2), 0, 300, NO);
        Check.dueRange("best what", w -> x.best(0, 0, w), 0, 2, NO);
        Check.dueRange("best f", f -> x.best(f, 0, 0), 0, 1, NO);
        Check.due("best of none", new CallOpener().best(0, 0, 0), NO);
        Check.dueLongs("of another root", w -> x.best(1, 300, w), 0, 0, 0, NO);
        Check.dueLongs("of the first again", w -> x.best(0, 300, w), 9, 2, 1, NO);
        Check.due("the tree is another thing", x.tree(0, 0), 2);
        CallOpener y = Check.countedWith("fun m(){a=p();b=p();a=k();}fun k(){a=p();}fun p(){}", 0);
        Check.due("adds at first", y.best(0, 300, 1), 2);
        Check.due("many with adds 0", y.best(0, 0, 0), 20);
        Check.due("one with adds 0", y.best(1, 0, 0), 10);
        Check.due("adds of it", y.best(1, 300, 1), 0);
        Check.due("none", y.best(2, 300, 0), 0);
        CallOpener z = Check.with("fun m(n){a=f(n);}fun f(n){if n{n=n-1;x=f(n);}}");
        z.argument(0, 9);
        for (int i = 0; i < 10; i++) {
            z.counted(0);
        }
        z.set(2, 0);
        Check.due("recursion below the first root", z.best(0, 300, 2), 1);
        Check.due("recursion below the second root", z.best(1, 300, 2), 0);
        z.set(2, 1);
        Check.due("recursion below the first root", z.best(0, 300, 2), 2);
        Check.due("recursion below the second root", z.best(1, 300, 2), 1);
    }

    public static void main(String[] args) {
        addsOfTheRoomAtMost();
        leastAdds();
        eachWithItsOwnNode();
        byHeatAndRecursionAlone();
        first32();
        bestWhat0To2();
        Check.end("BestBoundsTest");
    }
}
