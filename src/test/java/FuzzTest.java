import java.util.ArrayList;
import java.util.List;

/** Long runs of calls, told by counted numbers, in which FrostBids and PlainFrost answer alike. */
public final class FuzzTest {
    private static final int RUNS = 120, CALLS = 512;
    private static final String[] NAMES = {"feed", "town", "pane", "of", "grows", "row", "set", "cold", "shut",
        "breathe", "told", "pass", "on", "best", "heat", "comes", "breaths", "see", "colds", "warms", "firm", "odds",
        "mean", "plan", "done", "book", "looked", "act", "trace", "as", "image", "undo", "count"};

    private long seed;
    private FrostBids x;
    private PlainFrost y;
    private final List<String> run = new ArrayList<>();
    private final Dues dues;

    private FuzzTest(int seed, Dues dues) {
        this.seed = seed * 7919L + 17;
        this.dues = dues;
    }

    /** A number 0 .. most. */
    private int any(int most) {
        seed = seed * 6364136223846793005L + 1442695040888963407L;
        return (int) ((seed >>> 33) % (most + 1));
    }

    /** Mostly 0 .. most, sometimes just beside, or far away. */
    private int some(int most) {
        int way = any(39);
        int[] odd = {-1, most + 1, -2, Integer.MAX_VALUE, Integer.MIN_VALUE, most, 0, most + 9};
        return way < odd.length / 2 && any(1) == 0 ? odd[any(odd.length - 1)] : any(most);
    }

    private int ice() {
        switch (any(3)) {
            case 0: return some(4095);
            case 1: return (1 << any(12)) - 1;
            default: {
                int p = any(5);
                int now = x.on(any(20), 10 + p);
                return Math.max(0, now);
            }
        }
    }

    private String number() {
        return "" + (any(2) == 0 ? any(99) : any(11));
    }

    private String either(int open) {
        StringBuilder text = new StringBuilder(part(open));
        for (int more = any(5); more >= 4; more = any(5)) {
            text.append(more == 4 ? '&' : '|').append(part(open));
        }
        return text.toString();
    }

    private String part(int open) {
        int way = any(9);
        if (way == 0 && open < 6) {
            return "!" + part(open + 1);
        }
        if (way == 1 && open < 6) {
            return "(" + either(open + 1) + ")";
        }
        return "" + "pkcnwh".charAt(any(5)) + "<=>".charAt(any(2)) + (any(9) == 0 ? number() : "" + any(9));
    }

    private String clause() {
        switch (any(7)) {
            case 0: return "fern " + number();
            case 1: return "tower " + number();
            case 2: case 3: case 4: return "glow " + number() + " " + either(0);
            default: return "chill " + number() + " " + either(0);
        }
    }

    /** Mostly a town, sometimes spoilt at some place. */
    private String townText() {
        StringBuilder text = new StringBuilder(clause());
        for (int more = any(4) == 0 ? any(10) : any(2); more > 0; more--) {
            text.append(';').append(any(3) == 0 ? "fern 1" : clause());
        }
        if (any(2) == 0) {
            int at = any(text.length() - 1);
            switch (any(3)) {
                case 0: text.setLength(at); break;
                case 1: text.deleteCharAt(at); break;
                case 2: text.insert(at, " ;()!&|019pkcnwh<=>fernx".charAt(any(23))); break;
                default: text.setCharAt(at, " ;()!&|019pkcnwh<=>fernx".charAt(any(23))); break;
            }
        }
        return text.toString();
    }

    private void same(String call, long got, long want) {
        run.add(call + " = " + got);
        if (got != want) {
            int from = Math.max(0, run.size() - 40);
            System.out.println(String.join("\n", run.subList(from, run.size())));
        }
        dues.due(call, got, want);
    }

    private void feedTown() {
        for (char sign : townText().toCharArray()) {
            same("feed(" + (int) sign + ")", x.feed(sign), y.feed(sign));
        }
        same("town()", x.town(), y.town());
    }

    private void call() {
        int which = any(NAMES.length + 6);
        if (which >= NAMES.length) {
            which = new int[] {2, 6, 11, 9, 7, 17, 23}[which - NAMES.length];
        }
        int a = some(5), b = some(20), c = some(9), d = ice();
        boolean is = any(1) == 0;
        int what = some(1);
        String name = NAMES[which] + "(" + a + ", " + b + ", " + c + ", " + d + ", " + what + ", " + is + ")";
        switch (which) {
            case 0: if (any(5) == 0) { same(name, x.feed(b), y.feed(b)); } break;
            case 1: if (any(3) == 0) { feedTown(); } else if (any(9) == 0) { same(name, x.town(), y.town()); } break;
            case 2: { int k = some(6), v = some(9); same(name, x.pane(k, v, c), y.pane(k, v, c)); break; }
            case 3: { int w = some(5); same(name, x.of(a, w), y.of(a, w)); break; }
            case 4: { int w = some(11); same(name, x.grows(a, w), y.grows(a, w)); break; }
            case 5: { int k = some(3); same(name, x.row(a, k, c), y.row(a, k, c)); break; }
            case 6: { int n = what == 0 ? c : d; same(name, x.set(a, what, n), y.set(a, what, n)); break; }
            case 7: same(name, x.cold(b), y.cold(b)); break;
            case 8: is = any(3) == 0; same(name, x.shut(a, is), y.shut(a, is)); break;
            case 9: same(name, x.breathe(a), y.breathe(a)); break;
            case 10: { int w = some(6); same(name, x.told(w), y.told(w)); break; }
            case 11: { int n = any(2) == 0 ? some(60) : any(4); same(name, x.pass(n), y.pass(n)); break; }
            case 12: { int n = some(60), w = any(2) == 0 ? some(6) : 10 + a; same(name, x.on(n, w), y.on(n, w)); break; }
            case 13: same(name, x.best(a, b, what), y.best(a, b, what)); break;
            case 14: same(name, x.heat(a, b, what), y.heat(a, b, what)); break;
            case 15: same(name, x.comes(a, d), y.comes(a, d)); break;
            case 16: { int n = some(3), k = some(3) - 1; same(name, x.breaths(n, k), y.breaths(n, k)); break; }
            case 17: { int n = some(20), i = any(1) == 0 ? x.on(n, 10 + a) : d; same(name, x.see(a, n, i), y.see(a, n, i)); break; }
            case 18: same(name, x.colds(what), y.colds(what)); break;
            case 19: same(name, x.warms(a), y.warms(a)); break;
            case 20: same(name, x.firm(a, what), y.firm(a, what)); break;
            case 21: { int n = some(60), q = any(1) == 0 ? some(999) : any(60); same(name, x.odds(a, n, q, what), y.odds(a, n, q, what)); break; }
            case 22: same(name, x.mean(what), y.mean(what)); break;
            case 23: { int w = any(1) == 0 ? 0 : some(3); same(name, x.plan(w, a), y.plan(w, a)); break; }
            case 24: same(name, x.done(what), y.done(what)); break;
            case 25: { int i = any(2) > 0 ? x.of(a, 3) : d; same(name, x.book(a, i), y.book(a, i)); break; }
            case 26: same(name, x.looked(), y.looked()); break;
            case 27: { int w = some(2), n = some(99); same(name, x.act(a, w, n), y.act(a, w, n)); break; }
            case 28: { int w = some(8); same(name, x.trace(w), y.trace(w)); break; }
            case 29: { int k = some(6); same(name, x.as(a, k), y.as(a, k)); break; }
            case 30: same(name, x.image(), y.image()); break;
            case 31: if (any(1) == 0) { same(name, x.undo(), y.undo()); } break;
            default: { int w = some(6); same(name, x.count(w), y.count(w)); break; }
        }
    }

    /** Everything that can be told of both is alike. */
    private void look() {
        for (int i = -1; i <= 7; i++) {
            same("told " + i, x.told(i), y.told(i));
            same("count " + i, x.count(i), y.count(i));
        }
        for (int p = 0; p < 6; p++) {
            for (int i = 0; i <= 5; i++) {
                same("of " + p + ", " + i, x.of(p, i), y.of(p, i));
            }
            for (int c = 0; c < 12; c++) {
                same("grows " + p + ", " + c, x.grows(p, c), y.grows(p, c));
            }
        }
    }

    private void go() {
        x = new FrostBids();
        y = new PlainFrost();
        for (int i = 0; i < CALLS && dues.wrong() == 0; i++) {
            call();
            if (i % 100 == 99) {
                look();
            }
        }
    }

    public static void main(String[] args) {
        Dues dues = new Dues();
        for (int i = 0; i < RUNS && dues.wrong() == 0; i++) {
            new FuzzTest(i, dues).go();
        }
        dues.end();
    }
}
