import java.util.ArrayList;
import java.util.List;

/**
 * The document's promises once more, in another way: towns are kept as texts and looked at anew
 * for each cell, all that is asked is tried on a copy of everything, and a fault is found by
 * trying what could still come behind. Nothing here is shared with the class under test.
 */
final class PlainFrost {
    static final int NONE = -1, BAD = -2, STATE = -3, FULL = -4;
    static final long NO = Long.MIN_VALUE;

    static final class Window {
        int kind, v, warm;
        boolean[] frozen = new boolean[12];
        boolean shut;
        int[] row = new int[4];

        Window copy() {
            Window w = new Window();
            w.kind = kind;
            w.v = v;
            w.warm = warm;
            w.frozen = frozen.clone();
            w.shut = shut;
            w.row = row.clone();
            return w;
        }

        int bits() {
            int sum = 0;
            for (int c = 11; c >= 0; c--) {
                sum = sum * 2 + (frozen[c] ? 1 : 0);
            }
            return sum;
        }

        void freeze(int bits) {
            for (int c = 0; c < 12; c++) {
                frozen[c] = bits / (int) Math.pow(2, c) % 2 == 1;
            }
        }
    }

    static final class All {
        List<Window> windows = new ArrayList<>();
        List<String> towns = new ArrayList<>();
        String tape = "";
        int cold = 5, paid = 0, hour = 0;
        List<int[]> seen = new ArrayList<>(), plan = new ArrayList<>(), book = new ArrayList<>();

        All copy() {
            All a = new All();
            for (Window w : windows) {
                a.windows.add(w.copy());
            }
            a.towns.addAll(towns);
            a.tape = tape;
            a.cold = cold;
            a.paid = paid;
            a.hour = hour;
            a.seen.addAll(seen);
            a.plan.addAll(plan);
            a.book.addAll(book);
            return a;
        }

        String[] clauses() {
            return towns.isEmpty() ? new String[0] : towns.get(towns.size() - 1).split(";");
        }

        int lastOf(String word, int without) {
            int n = without;
            for (String clause : clauses()) {
                if (clause.startsWith(word)) {
                    n = Integer.parseInt(clause.substring(word.length() + 1));
                }
            }
            return n;
        }

        int beside(int p, int cell) {
            boolean[] f = windows.get(p).frozen;
            return (cell > 0 && f[cell - 1] ? 1 : 0) + (cell < 11 && f[cell + 1] ? 1 : 0);
        }

        int value(char what, int p, int cell) {
            switch (what) {
                case 'p': return p;
                case 'k': return windows.get(p).kind;
                case 'c': return cell;
                case 'n': return beside(p, cell);
                case 'w': return windows.get(p).warm;
                default: return hour % 10;
            }
        }

        /** Where the first sign stands that is in no bracket; -1: nowhere. */
        static int outside(String text, char sign) {
            int open = 0;
            for (int i = 0; i < text.length(); i++) {
                open += text.charAt(i) == '(' ? 1 : text.charAt(i) == ')' ? -1 : 0;
                if (open == 0 && text.charAt(i) == sign) {
                    return i;
                }
            }
            return -1;
        }

        boolean holds(String e, int p, int cell) {
            int at = outside(e, '|');
            if (at >= 0) {
                return holds(e.substring(0, at), p, cell) || holds(e.substring(at + 1), p, cell);
            }
            at = outside(e, '&');
            if (at >= 0) {
                return holds(e.substring(0, at), p, cell) && holds(e.substring(at + 1), p, cell);
            }
            if (e.charAt(0) == '!') {
                return !holds(e.substring(1), p, cell);
            }
            if (e.charAt(0) == '(') {
                return holds(e.substring(1, e.length() - 1), p, cell);
            }
            int value = value(e.charAt(0), p, cell);
            int than = Integer.parseInt(e.substring(2));
            return e.charAt(1) == '<' ? value < than : e.charAt(1) == '=' ? value == than : value > than;
        }

        int bite(int p, int cell) {
            int sum = cold - windows.get(p).warm;
            for (String clause : clauses()) {
                String[] parts = clause.split(" ");
                if (parts.length == 3 && holds(parts[2], p, cell)) {
                    int n = Integer.parseInt(parts[1]);
                    sum += parts[0].equals("chill") ? n : -n;
                }
            }
            return sum;
        }

        int grows(int p, int cell) {
            Window w = windows.get(p);
            int bite = bite(p, cell);
            int half = (bite < 0 ? -1 : 1) * (Math.abs(bite) >> 1);
            int kitchen = hour % 4 == 0 ? bite - w.v : bite;
            int rectory = bite + beside(p, cell) + beside(p, cell);
            switch (w.kind) {
                case 0: return bite;
                case 1: return kitchen;
                case 2: return half;
                case 3: return rectory;
                case 4: return cell == 2 || cell == 5 || cell == 8 || cell == 11 ? 0 : kitchen;
                case 5: return half + w.v;
                default: return rectory + w.row[cell & 3] - 4;
            }
        }

        void hour() {
            List<boolean[]> next = new ArrayList<>();
            for (int p = 0; p < windows.size(); p++) {
                boolean[] f = windows.get(p).frozen.clone();
                for (int c = 0; c < 12 && !windows.get(p).shut; c++) {
                    if (windows.get(p).frozen[c]) {
                        f[c] = grows(p, c) > -10;
                    } else {
                        f[c] = grows(p, c) > 0 && (c == 0 || beside(p, c) > 0);
                    }
                }
                next.add(f);
            }
            for (int p = 0; p < windows.size(); p++) {
                windows.get(p).frozen = next.get(p);
            }
            hour++;
        }

        All behind(int n) {
            All a = copy();
            for (int i = 0; i < n; i++) {
                a.hour();
            }
            return a;
        }

        int offer(int p) {
            StringBuilder text = new StringBuilder();
            for (boolean f : windows.get(p).frozen) {
                text.append(f ? '*' : ' ');
            }
            int runs = 0, longest = 0;
            for (String run : text.toString().split(" ")) {
                runs += run.isEmpty() ? 0 : 1;
                longest = Math.max(longest, run.length());
            }
            return runs * lastOf("fern", 3) + longest * lastOf("tower", 2);
        }

        int offers() {
            int sum = 0;
            for (int p = 0; p < windows.size(); p++) {
                sum += offer(p);
            }
            return sum;
        }

        int breath(int p) {
            int offer = offer(p);
            paid += offer;
            windows.get(p).frozen = new boolean[12];
            return offer;
        }

        boolean seenSo() {
            for (int[] s : seen) {
                if (behind(s[1]).windows.get(s[0]).bits() != s[2]) {
                    return false;
                }
            }
            return true;
        }
    }

    private All all = new All();
    private All kept = null;
    private List<Integer> ran = new ArrayList<>();

    private boolean isPane(int p) {
        return p >= 0 && p < all.windows.size();
    }

    private static boolean out(int n, int most) {
        return n < 0 || n > most;
    }

    // ---- what is a town, by the words of the document

    private static boolean isNumber(String s) {
        return s.matches("0|[1-9][0-9]?");
    }

    /** Whether it is an E, with so many of ! and ( open around. */
    private static boolean isE(String e, int open) {
        int at = All.outside(e, '|');
        if (at >= 0) {
            return isE(e.substring(0, at), open) && isE(e.substring(at + 1), open);
        }
        at = All.outside(e, '&');
        if (at >= 0) {
            return isE(e.substring(0, at), open) && isE(e.substring(at + 1), open);
        }
        if (e.startsWith("!")) {
            return open < 5 && isF(e.substring(1), open + 1);
        }
        return isF(e, open);
    }

    private static boolean isF(String f, int open) {
        if (f.startsWith("!")) {
            return open < 5 && isF(f.substring(1), open + 1);
        }
        if (f.startsWith("(")) {
            return open < 5 && f.endsWith(")") && All.outside(f, ')') == f.length() - 1
                && isE(f.substring(1, f.length() - 1), open + 1);
        }
        return f.length() > 2 && "pkcnwh".indexOf(f.charAt(0)) >= 0 && "<=>".indexOf(f.charAt(1)) >= 0
            && isNumber(f.substring(2));
    }

    static boolean isTown(String text) {
        String[] clauses = text.split(";", -1);
        if (clauses.length > 10) {
            return false;
        }
        for (String clause : clauses) {
            String[] parts = clause.split(" ", -1);
            boolean isWorth = parts.length == 2 && (parts[0].equals("fern") || parts[0].equals("tower"));
            boolean isGrowth = parts.length == 3 && (parts[0].equals("chill") || parts[0].equals("glow"));
            if (!isWorth && !isGrowth || !isNumber(parts[1]) || isGrowth && !isE(parts[2], 0)) {
                return false;
            }
        }
        return true;
    }

    /** Whether there is a town that begins so. */
    static boolean canGoOn(String head) {
        String[] tails = {"fern 1", "tower 1", "chill 1 p=1", "glow 1 p=1"};
        for (String tail : tails) {
            for (int from = 0; from <= tail.length(); from++) {
                String ends = "";
                for (int i = 0; i <= 5; i++) {
                    if (isTown(head + tail.substring(from) + ends)) {
                        return true;
                    }
                    ends += ")";
                }
            }
        }
        return false;
    }

    static int fault(String text) {
        for (int i = 0; i < text.length(); i++) {
            if (!canGoOn(text.substring(0, i + 1))) {
                return i;
            }
        }
        return text.length();
    }

    // ---- the face

    int feed(int sign) {
        if (out(sign, 127)) {
            return BAD;
        }
        if (all.tape.length() >= 100) {
            return FULL;
        }
        all.tape += (char) sign;
        return all.tape.length();
    }

    int town() {
        if (all.towns.size() == 5) {
            return FULL;
        }
        String text = all.tape;
        all.tape = "";
        if (!isTown(text)) {
            return -10 - fault(text);
        }
        all.towns.add(text);
        return all.towns.size() - 1;
    }

    int pane(int kind, int v, int warm) {
        if (out(kind, 6)) {
            return NONE;
        }
        if (out(v, 9) || out(warm, 9)) {
            return BAD;
        }
        if (all.windows.size() == 6) {
            return FULL;
        }
        Window w = new Window();
        w.kind = kind;
        w.v = v;
        w.warm = warm;
        all.windows.add(w);
        return all.windows.size() - 1;
    }

    int of(int p, int what) {
        if (!isPane(p) || out(what, 5)) {
            return NONE;
        }
        Window w = all.windows.get(p);
        return new int[] {w.kind, w.v, w.warm, w.bits(), w.shut ? 1 : 0, all.offer(p)}[what];
    }

    int grows(int p, int cell) {
        return !isPane(p) || out(cell, 11) ? -999999 : all.grows(p, cell);
    }

    int row(int p, int k, int n) {
        if (!isPane(p) || out(k, 3)) {
            return NONE;
        }
        if (out(n, 9)) {
            return BAD;
        }
        Window w = all.windows.get(p);
        if (w.kind != 6) {
            return STATE;
        }
        int was = w.row[k];
        w.row[k] = n;
        return was;
    }

    int set(int p, int what, int n) {
        if (!isPane(p) || out(what, 1)) {
            return NONE;
        }
        if (out(n, what == 0 ? 9 : 4095)) {
            return BAD;
        }
        Window w = all.windows.get(p);
        int was = what == 0 ? w.warm : w.bits();
        if (what == 0) {
            w.warm = n;
        } else {
            w.freeze(n);
        }
        return was;
    }

    int cold(int n) {
        if (out(n, 20)) {
            return BAD;
        }
        int was = all.cold;
        all.cold = n;
        return was;
    }

    int shut(int p, boolean is) {
        if (!isPane(p)) {
            return NONE;
        }
        boolean was = all.windows.get(p).shut;
        all.windows.get(p).shut = is;
        return was ? 1 : 0;
    }

    int breathe(int p) {
        if (!isPane(p)) {
            return NONE;
        }
        int offer = all.breath(p);
        all.paid = Math.min(all.paid, 999999);
        return offer;
    }

    int told(int what) {
        if (out(what, 6)) {
            return NONE;
        }
        int shut = 0;
        for (int p = 0; p < all.windows.size(); p++) {
            shut += all.windows.get(p).shut ? 1 << p : 0;
        }
        return new int[] {all.hour, all.cold, all.lastOf("fern", 3), all.lastOf("tower", 2), all.paid,
            all.offers(), shut}[what];
    }

    int pass(int n) {
        if (out(n, 60)) {
            return BAD;
        }
        if (all.hour + n > 9999) {
            return STATE;
        }
        all = all.behind(n);
        return all.hour;
    }

    int on(int n, int what) {
        if (what != 0 && (what < 10 || !isPane(what - 10))) {
            return NONE;
        }
        if (out(n, 60)) {
            return BAD;
        }
        return what == 0 ? all.behind(n).offers() : all.behind(n).windows.get(what - 10).bits();
    }

    int best(int p, int n, int what) {
        if (!isPane(p) || out(what, 1)) {
            return NONE;
        }
        if (out(n, 20)) {
            return BAD;
        }
        int first = 0;
        for (int i = 1; i <= n; i++) {
            first = all.behind(i).offer(p) > all.behind(first).offer(p) ? i : first;
        }
        return what == 0 ? first : all.behind(first).offer(p);
    }

    int heat(int p, int n, int what) {
        if (!isPane(p) || out(what, 1)) {
            return NONE;
        }
        if (out(n, 20)) {
            return BAD;
        }
        int[] offers = new int[10];
        int first = 0;
        for (int w = 0; w < 10; w++) {
            All a = all.copy();
            a.windows.get(p).warm = w;
            offers[w] = a.behind(n).offer(p);
            first = offers[w] > offers[first] ? w : first;
        }
        return what == 0 ? first : offers[first];
    }

    int comes(int p, int ice) {
        if (!isPane(p)) {
            return NONE;
        }
        if (out(ice, 4095)) {
            return BAD;
        }
        for (int i = 0; i <= 60; i++) {
            if (all.behind(i).windows.get(p).bits() == ice) {
                return i;
            }
        }
        return -5;
    }

    /** The most that is paid, and the row, of all that begin as the row does so far. */
    private int[] mostBreaths(All a, int n) {
        if (n == 0) {
            return new int[] {a.paid};
        }
        int[] most = null;
        for (int p = 0; p <= 9; p++) {
            if (p < a.windows.size() || p == 9) {
                All b = a.copy();
                if (p < 9) {
                    b.breath(p);
                }
                b.hour();
                int[] rest = mostBreaths(b, n - 1);
                if (most == null || rest[0] > most[0]) {
                    most = new int[n + 1];
                    most[0] = rest[0];
                    most[1] = p;
                    System.arraycopy(rest, 1, most, 2, n - 1);
                }
            }
        }
        return most;
    }

    int breaths(int n, int k) {
        if (k < -1 || k > 2) {
            return NONE;
        }
        if (n < 1 || n > 3) {
            return BAD;
        }
        int[] most = mostBreaths(all, n);
        return k == -1 ? most[0] - all.paid : k < n ? most[k + 1] : -5;
    }

    int see(int p, int n, int ice) {
        if (p == -1) {
            all.seen.clear();
            return 0;
        }
        if (!isPane(p)) {
            return NONE;
        }
        if (out(n, 20) || out(ice, 4095)) {
            return BAD;
        }
        if (all.seen.size() == 5) {
            return FULL;
        }
        all.seen.add(new int[] {p, n, ice});
        return all.seen.size();
    }

    int colds(int what) {
        if (out(what, 1)) {
            return NONE;
        }
        List<Integer> found = new ArrayList<>();
        for (int c = 0; c <= 20; c++) {
            All a = all.copy();
            a.cold = c;
            if (a.seenSo()) {
                found.add(c);
            }
        }
        return what == 0 ? found.size() : found.isEmpty() ? -5 : found.get(0);
    }

    int warms(int p) {
        if (!isPane(p)) {
            return NONE;
        }
        int bits = 0;
        for (int w = 0; w <= 9; w++) {
            All a = all.copy();
            a.windows.get(p).warm = w;
            bits += a.seenSo() ? 1 << w : 0;
        }
        return bits;
    }

    int firm(int p, int what) {
        if (!isPane(p) || out(what, 1)) {
            return NONE;
        }
        List<Integer> found = new ArrayList<>();
        for (int v = 0; v <= 9; v++) {
            All a = all.copy();
            a.windows.get(p).v = v;
            if (a.seenSo()) {
                found.add(v);
            }
        }
        return what == 0 ? found.size() : found.isEmpty() ? -5 : found.get(0);
    }

    private static long part(long above, long below, int part) {
        long a = above, b = below;
        while (b != 0) {
            long rest = a % b;
            a = b;
            b = rest;
        }
        return (part == 0 ? above : below) / a;
    }

    long odds(int p, int n, int q, int part) {
        if (!isPane(p) || out(n, 60) || out(q, 999) || out(part, 1)) {
            return NO;
        }
        int good = 0;
        for (int c = 0; c <= 20; c++) {
            All a = all.copy();
            a.cold = c;
            good += a.behind(n).offer(p) >= q ? 1 : 0;
        }
        return part(good, 21, part);
    }

    long mean(int part) {
        return out(part, 1) || all.windows.isEmpty() ? NO : part(all.offers(), all.windows.size(), part);
    }

    int plan(int what, int p) {
        if (what == -1) {
            all.plan.clear();
            return 0;
        }
        if (out(what, 3) || what != 0 && !isPane(p)) {
            return NONE;
        }
        if (all.plan.size() == 8) {
            return FULL;
        }
        all.plan.add(new int[] {what, p});
        return all.plan.size();
    }

    int done(int what) {
        if (out(what, 1)) {
            return NONE;
        }
        All a = all.copy();
        for (int[] r : all.plan) {
            if (r[0] == 0) {
                a.hour();
            } else if (r[0] == 1) {
                a.breath(r[1]);
            } else {
                a.windows.get(r[1]).shut = r[0] == 2;
            }
        }
        return what == 0 ? a.paid : a.offers();
    }

    int book(int p, int ice) {
        if (p == -1) {
            all.book.clear();
            return 0;
        }
        if (!isPane(p)) {
            return NONE;
        }
        if (out(ice, 4095)) {
            return BAD;
        }
        if (all.book.size() == 8) {
            return FULL;
        }
        all.book.add(new int[] {p, ice});
        return all.book.size();
    }

    int looked() {
        for (int i = 0; i < all.book.size(); i++) {
            if (all.windows.get(all.book.get(i)[0]).bits() != all.book.get(i)[1]) {
                return i;
            }
        }
        return -5;
    }

    private static final int[] ABOVE = {-1, 0, 0, 0, 1, 2, 3};
    /** The number of the body that a KIND (first) has for an ACT (second); 0: none. */
    private static final int[][] BODIES = {{1, 2, 3}, {11, 0, 0}, {0, 21, 0}, {0, 0, 31}, {0, 0, 41}, {51, 0, 0},
        {0, 61, 0}};

    private int run(int p, int kind, int act, int x) {
        int from = kind;
        while (BODIES[from][act] == 0) {
            from = ABOVE[from];
        }
        Window w = all.windows.get(p);
        int body = BODIES[from][act];
        ran.add(body);
        switch (body) {
            case 1: return x + p;
            case 2: return run(p, w.kind, 0, x) - w.v;
            case 3: return run(p, w.kind, 1, x) * 2;
            case 11: return run(p, 0, 0, x * 3);
            case 21: return -run(p, 0, 1, x);
            case 31: return run(p, 0, 2, x) ^ 7;
            case 41: {
                int left = run(p, 1, 2, x - 1);
                return left + run(p, w.kind, 0, 2);
            }
            case 51: return run(p, 2, 0, x) ^ p;
            default: return run(p, 3, 1, x) + w.v;
        }
    }

    int act(int p, int act, int x) {
        ran.clear();
        return isPane(p) && !out(act, 2) ? run(p, all.windows.get(p).kind, act, x) : 0;
    }

    int trace(int i) {
        return i >= 0 && i < Math.min(20, ran.size()) ? ran.get(i) : NONE;
    }

    int as(int p, int k) {
        if (!isPane(p) || out(k, 6)) {
            return NONE;
        }
        for (int kind = all.windows.get(p).kind; kind >= 0; kind = ABOVE[kind]) {
            if (kind == k) {
                return all.windows.get(p).v;
            }
        }
        return -6;
    }

    int image() {
        kept = all.copy();
        return all.windows.size();
    }

    int undo() {
        if (kept == null) {
            return STATE;
        }
        all = kept.copy();
        return all.windows.size();
    }

    int count(int what) {
        if (out(what, 6)) {
            return NONE;
        }
        return new int[] {all.windows.size(), all.towns.size(), all.seen.size(), all.plan.size(), all.book.size(),
            all.tape.length(), ran.size()}[what];
    }
}
