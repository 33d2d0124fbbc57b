import java.util.ArrayList;
import java.util.List;

/** All that may be seen of an object, in fewer than 450 calls, to compare two objects by. */
final class Seen {
    private final List<Long> all = new ArrayList<>();
    private final CallOpener x;

    private Seen(CallOpener x) {
        this.x = x;
    }

    /** Asks only, and changes nothing. */
    static List<Long> of(CallOpener x) {
        Seen s = new Seen(x);
        s.askAboutProgram();
        int functions = Math.min(3, x.count(0));
        for (int f = 0; f < functions; f++) {
            s.askAboutFunction(f);
        }
        s.askAboutParts();
        return s.all;
    }

    /** Asks, and then sets: what was kept for later is told, too. */
    static List<Long> andSet(CallOpener x) {
        List<Long> all = of(x);
        all.add((long) x.program(13));
        for (int k = 0; k < 4; k++) {
            all.add((long) x.set(k, 1));
            all.add((long) x.argument(k, 0));
        }
        return all;
    }

    private void add(long answer) {
        all.add(answer);
    }

    private void askAboutProgram() {
        for (int w = 0; w < 6; w++) {
            add(x.count(w));
        }
        for (int s = 0; s < 5; s++) {
            add(x.site(s, 1));
            add(x.site(s, 2));
            add(x.site(s, 3));
            add(x.site(s, 4));
            add(x.opened(0, s));
        }
    }

    private void askAboutFunction(int f) {
        for (int w = 0; w < 10; w++) {
            add(x.function(f, w));
        }
        add(x.best(f, 20, 1));
        add(x.best(f, 20, 0));
        add(x.saved(f));
        add(x.gain(f, true));
        add(x.gain(f, false));
        add(x.would(f, 0, 300, 0));
        for (int w = 0; w < 7; w++) {
            add(x.tree(f, w));
            add(x.folded(f, w));
        }
        for (int w = 0; w < 5; w++) {
            add(x.after(f, w));
            add(x.run(f, w));
            add(x.result(f, w));
        }
    }

    private void askAboutParts() {
        for (int i = 0; i < 5; i++) {
            for (int w = 0; w < 8; w++) {
                add(x.line(0, i, w));
            }
            for (int w = 0; w < 6; w++) {
                add(x.node(0, i, w));
            }
            for (int w = 0; w < 4; w++) {
                add(x.worth(0, i, w));
                add(x.left(0, i, w));
            }
        }
    }
}
