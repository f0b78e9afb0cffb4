import java.util.ArrayList;
import java.util.List;

/** Long runs of calls, told by counted numbers, in which FrostBids and PlainFrost answer alike. */
public final class FuzzTest {
    /** How many runs there are, and of how many calls: in all, of the longest text that is fed, of a look. */
    private static final int RUNS = 250, CALLS = 512, LONGEST = 104, LOOK = 126;
    private static final String[] NAMES = {"feed", "town", "pane", "of", "grows", "row", "set", "cold", "shut",
        "breathe", "told", "pass", "on", "best", "heat", "comes", "breaths", "see", "colds", "warms", "firm", "odds",
        "mean", "plan", "done", "book", "looked", "act", "trace", "as", "image", "undo", "count"};

    private long seed;
    private FrostBids x;
    private PlainFrost y;
    private final List<String> run = new ArrayList<>();
    private final Dues dues;

    private FuzzTest(int seed, Dues dues) {
        this.seed = seed * 7919L + 17;
        this.dues = dues;
    }

    /** A number 0 .. most. */
    private int any(int most) {
        seed = seed * 6364136223846793005L + 1442695040888963407L;
        return (int) ((seed >>> 33) % (most + 1));
    }

    /** Mostly 0 .. most, sometimes just beside, or far away. */
    private int some(int most) {
        int way = any(39);
        int[] odd = {-1, most + 1, -2, Integer.MAX_VALUE, Integer.MIN_VALUE, most, 0, most + 9};
        return way < odd.length / 2 && any(1) == 0 ? odd[any(odd.length - 1)] : any(most);
    }

    private int ice() {
        switch (any(3)) {
            case 0: return some(4095);
            case 1: return (1 << any(12)) - 1;
            default: {
                int p = any(5);
                int now = y.on(any(20), 10 + p);
                return Math.max(0, now);
            }
        }
    }

    private String number() {
        return "" + (any(2) == 0 ? any(99) : any(11));
    }

    private String either(int open) {
        StringBuilder text = new StringBuilder(part(open));
        for (int more = any(5); more >= 4; more = any(5)) {
            text.append(more == 4 ? '&' : '|').append(part(open));
        }
        return text.toString();
    }

    private String part(int open) {
        int way = any(9);
        if (way == 0 && open < 6) {
            return "!" + part(open + 1);
        }
        if (way == 1 && open < 6) {
            return "(" + either(open + 1) + ")";
        }
        return "" + "pkcnwh".charAt(any(5)) + "<=>".charAt(any(2)) + (any(9) == 0 ? number() : "" + any(9));
    }

    private String clause() {
        switch (any(7)) {
            case 0: return "fern " + number();
            case 1: return "tower " + number();
            case 2: case 3: case 4: return "glow " + number() + " " + either(0);
            default: return "chill " + number() + " " + either(0);
        }
    }

    /** Mostly a town, sometimes spoilt at some place. */
    private String townText() {
        StringBuilder text = new StringBuilder(clause());
        for (int more = any(4) == 0 ? any(10) : any(2); more > 0; more--) {
            text.append(';').append(any(3) == 0 ? "fern 1" : clause());
        }
        if (any(2) == 0) {
            int at = any(text.length() - 1);
            switch (any(3)) {
                case 0: text.setLength(at); break;
                case 1: text.deleteCharAt(at); break;
                case 2: text.insert(at, " ;()!&|019pkcnwh<=>fernx".charAt(any(23))); break;
                default: text.setCharAt(at, " ;()!&|019pkcnwh<=>fernx".charAt(any(23))); break;
            }
        }
        return text.toString();
    }

    private void same(String call, long got, long want) {
        run.add(call + " = " + got);
        if (got != want) {
            int from = Math.max(0, run.size() - 40);
            System.out.println(String.join("\n", run.subList(from, run.size())));
        }
        dues.due(call, got, want);
    }

    private void feedTown() {
        String text = townText();
        for (char sign : text.substring(0, Math.min(LONGEST, text.length())).toCharArray()) {
            same("feed(" + (int) sign + ")", x.feed(sign), y.feed(sign));
        }
        same("town()", x.town(), y.town());
    }

    private void call() {
        int which = any(NAMES.length + 6);
        if (which >= NAMES.length) {
            which = new int[] {2, 6, 11, 9, 7, 17, 23}[which - NAMES.length];
        }
        String name = NAMES[which];
        int pane = some(5);
        if (which < 12) {
            change(name, which, pane);
        } else if (which < 23) {
            ask(name, which, pane);
        } else {
            tell(name, which, pane);
        }
    }

    private void change(String call, int which, int pane) {
        int n = some(9), what = some(1), bits = ice();
        String name = call + "(" + pane + ", " + what + ", " + n + ", " + bits + " ..)";
        switch (which) {
            case 0: if (any(5) == 0) { int sign = some(127); same(name, x.feed(sign), y.feed(sign)); } break;
            case 1: if (any(3) == 0) { feedTown(); } else if (any(9) == 0) { same(name, x.town(), y.town()); } break;
            case 2: { int kind = some(6), v = some(9); same(name, x.pane(kind, v, n), y.pane(kind, v, n)); break; }
            case 3: { int w = some(5); same(name, x.of(pane, w), y.of(pane, w)); break; }
            case 4: { int cell = some(11); same(name, x.grows(pane, cell), y.grows(pane, cell)); break; }
            case 5: { int k = some(3); same(name, x.row(pane, k, n), y.row(pane, k, n)); break; }
            case 6: { int to = what == 0 ? n : bits; same(name, x.set(pane, what, to), y.set(pane, what, to)); break; }
            case 7: { int cold = some(20); same(name, x.cold(cold), y.cold(cold)); break; }
            case 8: { boolean is = any(3) == 0; same(name, x.shut(pane, is), y.shut(pane, is)); break; }
            case 9: same(name, x.breathe(pane), y.breathe(pane)); break;
            case 10: { int w = some(6); same(name, x.told(w), y.told(w)); break; }
            default: { int hours = any(2) == 0 ? some(60) : any(4); same(name, x.pass(hours), y.pass(hours)); break; }
        }
    }

    private void ask(String call, int which, int pane) {
        int n = some(20), far = some(60), what = some(1), bits = ice();
        String name = call + "(" + pane + ", " + what + ", " + n + ", " + far + ", " + bits + " ..)";
        switch (which) {
            case 12: { int w = any(2) == 0 ? some(6) : 10 + pane; same(name, x.on(far, w), y.on(far, w)); break; }
            case 13: same(name, x.best(pane, n, what), y.best(pane, n, what)); break;
            case 14: same(name, x.heat(pane, n, what), y.heat(pane, n, what)); break;
            case 15: same(name, x.comes(pane, bits), y.comes(pane, bits)); break;
            case 16: { int h = some(3), k = some(3) - 1; same(name, x.breaths(h, k), y.breaths(h, k)); break; }
            case 17: {
                int seen = any(1) == 0 ? y.on(n, 10 + pane) : bits;
                same(name, x.see(pane, n, seen), y.see(pane, n, seen));
                break;
            }
            case 18: same(name, x.colds(what), y.colds(what)); break;
            case 19: same(name, x.warms(pane), y.warms(pane)); break;
            case 20: same(name, x.firm(pane, what), y.firm(pane, what)); break;
            case 21: {
                int q = any(1) == 0 ? some(999) : any(60);
                same(name, x.odds(pane, far, q, what), y.odds(pane, far, q, what));
                break;
            }
            default: same(name, x.mean(what), y.mean(what)); break;
        }
    }

    private void tell(String call, int which, int pane) {
        int what = some(1), few = some(6), many = some(99), bits = ice();
        String name = call + "(" + pane + ", " + what + ", " + few + ", " + many + ", " + bits + " ..)";
        switch (which) {
            case 23: { int w = any(1) == 0 ? 0 : some(3); same(name, x.plan(w, pane), y.plan(w, pane)); break; }
            case 24: same(name, x.done(what), y.done(what)); break;
            case 25: {
                int booked = any(2) > 0 ? y.of(pane, 3) : bits;
                same(name, x.book(pane, booked), y.book(pane, booked));
                break;
            }
            case 26: same(name, x.looked(), y.looked()); break;
            case 27: { int act = some(2); same(name, x.act(pane, act, many), y.act(pane, act, many)); break; }
            case 28: { int i = some(8); same(name, x.trace(i), y.trace(i)); break; }
            case 29: same(name, x.as(pane, few), y.as(pane, few)); break;
            case 30: same(name, x.image(), y.image()); break;
            case 31: if (any(1) == 0) { same(name, x.undo(), y.undo()); } break;
            default: same(name, x.count(few), y.count(few)); break;
        }
    }

    /** Everything that can be told of both is alike. */
    private void look() {
        for (int i = -1; i <= 7; i++) {
            same("told " + i, x.told(i), y.told(i));
            same("count " + i, x.count(i), y.count(i));
        }
        for (int p = 0; p < 6; p++) {
            for (int i = 0; i <= 5; i++) {
                same("of " + p + ", " + i, x.of(p, i), y.of(p, i));
            }
            for (int c = 0; c < 12; c++) {
                same("grows " + p + ", " + c, x.grows(p, c), y.grows(p, c));
            }
        }
    }

    /** As many calls as are promised, with room for the longest town and a look at the end. */
    private void go() {
        x = new FrostBids();
        y = new PlainFrost();
        while (run.size() < CALLS - LONGEST - 1 - LOOK && dues.wrong() == 0) {
            call();
        }
        look();
        dues.holds(run.size() + " calls are no more than promised", run.size() <= CALLS);
    }

    public static void main(String[] args) {
        Dues dues = new Dues();
        for (int i = 0; i < RUNS && dues.wrong() == 0; i++) {
            new FuzzTest(i, dues).go();
        }
        dues.end();
    }
}
