import java.util.List;

/** "Terms", the last two sentences, for every call that may be refused, in every way. */
public final class RefusedTest {
    private static final int LEAST = Integer.MIN_VALUE;
    private static final int MOST = Integer.MAX_VALUE;
    private static final int NO = Integer.MIN_VALUE;
    private static final long NO_LONG = Long.MIN_VALUE;
    private static final String TEXT = "fun m(n){loop n{a=p(a,1);b=q();}if 0{b=p(1,2);}give a;}"
        + "fun p(x,y){z=x+y;w=q();give z;}fun q(){r=1;give r;}";
    private static final int FUNCTIONS = 3;
    private static final int SITES = 4;

    private interface Call {
        long to(CallOpener x);
    }

    private static CallOpener fresh() {
        CallOpener x = Check.with(TEXT);
        x.argument(0, 5);
        x.argument(1, 3);
        x.counted(0);
        x.counted(1);
        x.set(0, 20);
        x.set(1, 9);
        x.set(2, 2);
        x.set(3, 90);
        x.feed(0x66756e20, 0x7a28297b, 0x7d202020, 0x20202020, 0x20202020);
        return x;
    }

    private static void dueRefused(String name, long refusal, Call call) {
        List<Long> untouched = Seen.andSet(fresh());
        CallOpener x = fresh();
        Check.due(name, call.to(x), refusal);
        Check.due(name + " changes nothing", Seen.andSet(x).equals(untouched) ? 1 : 0, 1);
        CallOpener y = fresh();
        y.result(0, 0);
        y.after(0, 0);
        Check.due(name + " behind others", call.to(y), refusal);
        Check.due(name + " changes nothing behind others", Seen.andSet(y).equals(untouched) ? 1 : 0, 1);
    }

    private static void askingAndChanging() {
        Check.about("Terms", "A call that is refused (NONE, -2 to -9) changes nothing");
        int[] lengths = {LEAST, -1, 21, 400, 401, MOST};
        for (int n : lengths) {
            dueRefused("program " + n, -1, x -> x.program(n));
        }
        int[] whats = {LEAST, -1, 99, MOST};
        for (int what : whats) {
            dueRefused("count " + what, -1, x -> x.count(what));
            dueRefused("function 0 " + what, -1, x -> x.function(0, what));
            dueRefused("site 0 " + what, -1, x -> x.site(0, what));
            dueRefused("run 0 " + what, NO, x -> x.run(0, what));
            dueRefused("argument " + what, NO, x -> x.argument(what, 8));
            dueRefused("set " + what, -1, x -> x.set(what, 8));
            dueRefused("set 1 " + what, -1, x -> x.set(1, what));
        }
        int[] outside = {LEAST, -1, FUNCTIONS, MOST};
        for (int f : outside) {
            dueRefused("function " + f, -1, x -> x.function(f, 0));
            dueRefused("site " + f, -1, x -> x.site(f == FUNCTIONS ? SITES : f, 0));
            dueRefused("run " + f, NO, x -> x.run(f, 0));
            dueRefused("counted " + f, -1, x -> x.counted(f));
            dueRefused("swap 0 " + f, -1, x -> x.swap(0, f));
            dueRefused("swap " + f + " 0", -1, x -> x.swap(f, 0));
            dueRefused("swap " + f + " " + f, -1, x -> x.swap(f, f));
        }
    }

    private static void treesAndResults() {
        Check.about("Terms", "A call that is refused .. changes nothing");
        int[] outside = {LEAST, -1, FUNCTIONS, MOST};
        for (int f : outside) {
            dueRefused("tree " + f, -1, x -> x.tree(f, 0));
            dueRefused("gain " + f, NO_LONG, x -> x.gain(f, true));
            dueRefused("node " + f, -1, x -> x.node(f, 0, 0));
            dueRefused("worth " + f, NO_LONG, x -> x.worth(f, 0, 0));
            dueRefused("opened " + f, -1, x -> x.opened(f, 0));
            dueRefused("result " + f, -1, x -> x.result(f, 0));
            dueRefused("line " + f, -1, x -> x.line(f, 0, 0));
            dueRefused("after " + f, NO, x -> x.after(f, 0));
            dueRefused("saved " + f, NO, x -> x.saved(f));
            dueRefused("folded " + f, NO, x -> x.folded(f, 0));
            dueRefused("best " + f, NO_LONG, x -> x.best(f, 0, 0));
            dueRefused("would " + f, -1, x -> x.would(f, 0, 0, 0));
            dueRefused("left " + f, -1, x -> x.left(f, 0, 0));
        }
        int[] whats = {LEAST, -1, 99, MOST};
        for (int what : whats) {
            dueRefused("tree 0 " + what, -1, x -> x.tree(0, what));
            dueRefused("node 0 0 " + what, -1, x -> x.node(0, 0, what));
            dueRefused("worth 0 0 " + what, NO_LONG, x -> x.worth(0, 0, what));
            dueRefused("result 0 " + what, -1, x -> x.result(0, what));
            dueRefused("line 0 0 " + what, -1, x -> x.line(0, 0, what));
            dueRefused("after 0 " + what, NO, x -> x.after(0, what));
            dueRefused("folded 0 " + what, NO, x -> x.folded(0, what));
            dueRefused("best 0 0 " + what, NO_LONG, x -> x.best(0, 0, what));
            dueRefused("would 0 0 0 " + what, -1, x -> x.would(0, 0, 0, what));
            dueRefused("would 0 k " + what, -1, x -> x.would(0, what, 1, 0));
            dueRefused("would 0 1 v " + what, -1, x -> x.would(0, 1, what, 0));
            dueRefused("left 0 0 " + what, -1, x -> x.left(0, 0, what));
        }
        int[] places = {LEAST, -1, 300, MOST};
        for (int i : places) {
            dueRefused("node 0 " + i, -1, x -> x.node(0, i, 0));
            dueRefused("worth 0 " + i, NO_LONG, x -> x.worth(0, i, 0));
            dueRefused("opened 0 " + i, -1, x -> x.opened(0, i));
            dueRefused("line 0 " + i, -1, x -> x.line(0, i, 0));
            dueRefused("left 0 " + i, -1, x -> x.left(0, i, 0));
            dueRefused("best 0 " + i, NO_LONG, x -> x.best(0, i == 300 ? 301 : i, 0));
        }
    }

    /** A text with a FAULT takes the tape and does nothing else; a feed that is refused leaves the tape, too. */
    private static void butTheTape() {
        Check.about("Terms", "changes nothing but the tape, where it is told");
        String[] texts = {"$", "fun abcdefg(){}", "fun a(){x=1000;}", "fun a(b,c,d,e){}", "fun a(b,b){}", "fun a(){x=b();}"};
        int[] faults = {-1000, -2004, -3010, -4012, -5008, -6010};
        for (int i = 0; i < texts.length; i++) {
            CallOpener untouched = fresh();
            untouched.program(20);
            Check.tell(untouched, TEXT);
            untouched.counted(0);
            CallOpener x = fresh();
            x.program(20);
            Check.tell(x, TEXT);
            x.counted(0);
            Check.due("fault", Check.tell(x, texts[i]), faults[i]);
            Check.due("fault " + i + " changes nothing", Seen.andSet(x).equals(Seen.andSet(untouched)) ? 1 : 0, 1);
        }
        CallOpener full = new CallOpener();
        for (int k = 0; k < 24; k++) {
            full.feed(0x20202020, 0x20202020, 0x20202020, 0x20202020, 0x20202020);
        }
        Check.due("feed is refused", full.feed(-1, -1, -1, -1, -1), -1);
        Check.due("the tape has as many", full.count(3), 480);
        Check.due("the tape has the same", full.program(400), 0);
    }

    private static void noneComesFirst() {
        Check.about("Terms", "Of several reasons NONE comes first");
        CallOpener x = new CallOpener();
        Check.feed(x, "$".repeat(420));
        Check.due("too long, with a FAULT", x.program(401), -1);
        Check.due("more than the tape has, with a FAULT", x.program(421), -1);
        Check.due("too long by far", x.program(480), -1);
        Check.due("the FAULT", x.program(400), -1000);
        Check.feed(x, "$");
        Check.due("more than the tape has, with a FAULT", x.program(21), -1);
        Check.due("the FAULT", x.program(20), -1000);
        Check.due("no such FUNCTION, and one", fresh().swap(7, 7), -1);
    }

    public static void main(String[] args) {
        askingAndChanging();
        treesAndResults();
        butTheTape();
        noneComesFirst();
        Check.end("RefusedTest");
    }
}
