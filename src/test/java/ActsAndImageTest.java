import java.util.function.Consumer;
import java.util.function.ToLongFunction;

/** Promises 29 to 34: ACTS and THE TRACE, KINDS that one is taken for, THE IMAGE, and how many there are. */
public final class ActsAndImageTest extends Edges {
    private static final int DRIPS = 0, CREAKS = 1, SHINES = 2;
    private static final int MOST = Integer.MAX_VALUE, LEAST = Integer.MIN_VALUE;

    public static void main(String[] args) {
        run(ActsAndImageTest.class);
    }

    /** An object in which a pane of that KIND and v is number i, behind others. */
    private static FrostBids at(int i, int kind, int v) {
        FrostBids x = new FrostBids();
        for (int other = 0; other < i; other++) {
            x.pane(0, 1, 0);
        }
        x.pane(kind, v, 5);
        return x;
    }

    /** An act of one of that KIND, whose number is 3 and whose v is 6, and the bodies that run by it. */
    private static void act(int kind, int act, int x, int want, int... bodies) {
        FrostBids all = at(3, kind, 6);
        due("act " + act + " of KIND " + kind + " with " + x, all.act(3, act, x), want);
        traced(all, bodies);
    }

    private static void traced(FrostBids x, int... bodies) {
        due("count(6)", x.count(6), bodies.length);
        for (int i = 0; i < bodies.length; i++) {
            due("trace(" + i + ")", x.trace(i), bodies[i]);
        }
        due("trace(" + bodies.length + ")", x.trace(bodies.length), NONE);
    }

    // ---- promise 29

    @Edge(promise = 29, says = {"An ACT (0 drips,", "i its number. BODIES: PANE: 1 drips: x + i."})
    static void dripsOfAPane() {
        act(0, DRIPS, 10, 13, 1);
        act(0, DRIPS, -10, -7, 1);
        due("act of pane 0", at(0, 0, 6).act(0, DRIPS, 10), 10);
        due("act of pane 5", at(5, 0, 6).act(5, DRIPS, 10), 15);
    }

    @Edge(promise = 29, says = {"1 creaks,", "2 creaks: drips(x) - v."})
    static void creaksOfAPane() {
        act(0, CREAKS, 10, 7, 2, 1);
    }

    @Edge(promise = 29, says = {"2 shines) of a PANE with x.", "3 shines: creaks(x) * 2."})
    static void shinesOfAPane() {
        act(0, SHINES, 10, 14, 3, 2, 1);
    }

    @Edge(promise = 29, says = "KITCHEN: 11 drips: super.drips(x * 3).")
    static void dripsOfAKitchen() {
        act(1, DRIPS, 10, 33, 11, 1);
    }

    @Edge(promise = 29, says = "drips(..) and so on: the body of its KIND")
    static void otherActsOfAKitchen() {
        act(1, CREAKS, 10, 27, 2, 11, 1);
        act(1, SHINES, 10, 54, 3, 2, 11, 1);
    }

    @Edge(promise = 29, says = "NURSERY: 21 creaks: -super.creaks(x).")
    static void creaksOfANursery() {
        act(2, CREAKS, 10, -7, 21, 2, 1);
    }

    @Edge(promise = 29, says = ", or, if that has none, of the next KIND above that has one")
    static void otherActsOfANursery() {
        act(2, DRIPS, 10, 13, 1);
        act(2, SHINES, 10, -14, 3, 21, 2, 1);
    }

    @Edge(promise = 29, says = "RECTORY: 31 shines: super.shines(x) ^ 7.")
    static void shinesOfARectory() {
        act(3, SHINES, 10, 14 ^ 7, 31, 3, 2, 1);
        act(3, SHINES, -10, -26 ^ 7, 31, 3, 2, 1);
    }

    @Edge(promise = 29, says = ", or, if that has none, of the next KIND above that has one")
    static void otherActsOfARectory() {
        act(3, DRIPS, 10, 13, 1);
        act(3, CREAKS, 10, 7, 2, 1);
    }

    @Edge(promise = 29, says = {"JAIL: 41 shines: super.shines(x - 1) + drips(2).",
        "what stands in a body is done from the left on"})
    static void shinesOfAJail() {
        act(4, SHINES, 10, 2 * (27 + 3 - 6) + 9, 41, 3, 2, 11, 1, 11, 1);
    }

    @Edge(promise = 29, says = ", or, if that has none, of the next KIND above that has one")
    static void otherActsOfAJail() {
        act(4, DRIPS, 10, 33, 11, 1);
        act(4, CREAKS, 10, 27, 2, 11, 1);
    }

    @Edge(promise = 29, says = "CHURCH: 51 drips: super.drips(x) ^ i.")
    static void dripsOfAChurch() {
        act(5, DRIPS, 10, 13 ^ 3, 51, 1);
        due("act of pane 5", at(5, 5, 6).act(5, DRIPS, 4), 9 ^ 5);
    }

    @Edge(promise = 29, says = "; super.drips(..): so from the KIND above the body's on")
    static void otherActsOfAChurch() {
        act(5, CREAKS, 10, -(14 - 6), 21, 2, 51, 1);
        act(5, SHINES, 10, -16, 3, 21, 2, 51, 1);
    }

    @Edge(promise = 29, says = "TOLD: 61 creaks: super.creaks(x) + v.")
    static void creaksOfAToldOne() {
        act(6, CREAKS, 10, 13, 61, 2, 1);
    }

    @Edge(promise = 29, says = "; super.drips(..): so from the KIND above the body's on")
    static void otherActsOfAToldOne() {
        act(6, DRIPS, 10, 13, 1);
        act(6, SHINES, 10, 26 ^ 7, 31, 3, 61, 2, 1);
    }

    @Edge(promise = 29, says = "ACTS of a PANE with x (ints, wrapping): drips, creaks, shines")
    static void dripsWrap() {
        act(0, DRIPS, MOST, LEAST + 2, 1);
        act(1, DRIPS, MOST, MOST - 2 + 3, 11, 1);
        act(1, DRIPS, LEAST, LEAST + 3, 11, 1);
        act(1, DRIPS, 1 << 30, -(1 << 30) + 3, 11, 1);
        act(5, DRIPS, MOST, LEAST + 2 ^ 3, 51, 1);
    }

    @Edge(promise = 29, says = "(ints, wrapping)")
    static void creaksWrap() {
        act(0, CREAKS, LEAST, MOST - 2, 2, 1);
        act(2, CREAKS, LEAST + 3, LEAST, 21, 2, 1);
        act(6, CREAKS, MOST - 2, LEAST, 61, 2, 1);
    }

    @Edge(promise = 29, says = "(ints, wrapping)")
    static void shinesWrap() {
        act(0, SHINES, MOST, -8, 3, 2, 1);
        act(0, SHINES, 1 << 30, LEAST - 6, 3, 2, 1);
        act(3, SHINES, MOST, -8 ^ 7, 31, 3, 2, 1);
        act(4, SHINES, LEAST, 2 * (MOST - 2 - 3) + 9, 41, 3, 2, 11, 1, 11, 1);
    }

    @Edge(promise = 29, says = {"0, and no TRACE then: no such PANE,", "and no TRACE then"})
    static void actOfNoPane() {
        for (int pane : new int[] {-1, 4, 6, LEAST, MOST}) {
            FrostBids x = at(3, 4, 6);
            x.act(3, SHINES, 1);
            due("act of pane " + pane, x.act(pane, DRIPS, 5), 0);
            traced(x);
        }
        due("act of a new object", new FrostBids().act(0, DRIPS, 5), 0);
    }

    @Edge(promise = 29, says = {", act.", "and no TRACE then"})
    static void noSuchAct() {
        for (int act : new int[] {-1, 3, 4, LEAST, MOST}) {
            FrostBids x = at(3, 4, 6);
            x.act(3, SHINES, 1);
            due("act " + act, x.act(3, act, 5), 0);
            traced(x);
        }
    }

    @Edge(promise = 29, says = "An ACT")
    static void actsChangeNothing() {
        FrostBids x = six();
        x.set(0, 1, ice("#"));
        for (int pane = 0; pane < 6; pane++) {
            x.act(pane, SHINES, 77);
            due("of(" + pane + ", 1)", x.of(pane, 1), pane);
        }
        due("told(5)", x.told(5), 5);
        due("told(0)", x.told(0), 0);
    }

    // ---- promise 30

    @Edge(promise = 30, says = "THE TRACE: the numbers of the bodies that ran in the latest act(), as they began")
    static void traceOfTheLatestAct() {
        FrostBids x = at(3, 4, 6);
        x.act(3, SHINES, 1);
        traced(x, 41, 3, 2, 11, 1, 11, 1);
        x.act(3, CREAKS, 1);
        traced(x, 2, 11, 1);
        x.act(0, DRIPS, 1);
        traced(x, 1);
    }

    @Edge(promise = 30, says = {"THE TRACE's i-th body.", "; the first 20 are kept"})
    static void longestTrace() {
        FrostBids x = at(3, 4, 6);
        x.act(3, SHINES, 1);
        due("trace(0)", x.trace(0), 41);
        due("trace(6)", x.trace(6), 1);
    }

    @Edge(promise = 30, says = "NONE.")
    static void traceBesideItsEdges() {
        FrostBids x = at(3, 4, 6);
        x.act(3, SHINES, 1);
        refused("trace", x::trace, NONE, -1, 7, 8, 19, 20, 21, LEAST, MOST);
    }

    @Edge(promise = 30, says = "NONE.")
    static void noTraceYet() {
        refused("trace", six()::trace, NONE, -1, 0, 1, 19, 20, LEAST, MOST);
    }

    // ---- promise 31

    private static void takenFor(int kind, String which) {
        FrostBids x = at(3, kind, 6);
        for (int k = 0; k <= 6; k++) {
            boolean is = which.indexOf('0' + k) >= 0;
            due("KIND " + kind + " as " + k, x.as(3, k), is ? 6 : OTHER_KIND);
        }
    }

    @Edge(promise = 31, says = "A PANE taken for a KIND k (0 .. 6), or one under that: its v.")
    static void kindsThatPanesAreTakenFor() {
        takenFor(0, "0");
        takenFor(1, "01");
        takenFor(2, "02");
        takenFor(3, "03");
    }

    @Edge(promise = 31, says = ", or one under that")
    static void kindsTwoAbove() {
        takenFor(4, "014");
        takenFor(5, "025");
        takenFor(6, "036");
    }

    @Edge(promise = 31, says = ": its v.")
    static void vOfOneTakenForAnother() {
        for (int v = 0; v <= 9; v++) {
            due("as(0, 0)", one(6, v, 0).as(0, 0), v);
            due("as(0, 1)", one(6, v, 0).as(0, 1), OTHER_KIND);
        }
    }

    @Edge(promise = 31, says = "-6: it is of another KIND.")
    static void kindsThatAreNotAbove() {
        due("a PANE as a KITCHEN", at(3, 0, 6).as(3, 1), OTHER_KIND);
        due("a KITCHEN as a JAIL", at(3, 1, 6).as(3, 4), OTHER_KIND);
        due("a JAIL as a CHURCH", at(3, 4, 6).as(3, 5), OTHER_KIND);
    }

    @Edge(promise = 31, says = "NONE: pane,")
    static void noPaneIsTakenForAnother() {
        FrostBids x = six();
        refusesPanes("as", pane -> x.as(pane, 0), NONE);
    }

    @Edge(promise = 31, says = ", k;")
    static void noKindThatPanesAreTakenFor() {
        FrostBids x = six();
        refused("as, k", k -> x.as(0, k), NONE, -1, 7, 8, LEAST, MOST);
    }

    // ---- promises 32 and 33

    /** What is looked at becomes another by a change, and by undo() what it was when THE IMAGE was taken. */
    private static void takenBack(Consumer<FrostBids> ahead, Consumer<FrostBids> change,
            ToLongFunction<FrostBids> look) {
        FrostBids x = six();
        ahead.accept(x);
        long was = look.applyAsLong(x);
        due("image()", x.image(), 6);
        for (int again = 0; again < 2; again++) {
            due("what is looked at", look.applyAsLong(x), was);
            change.accept(x);
            due("what is looked at is another", look.applyAsLong(x) != was ? 1 : 0, 1);
            due("undo()", x.undo(), 6);
            due("what is looked at, taken back", look.applyAsLong(x), was);
        }
    }

    @Edge(promise = 32, says = "THE IMAGE is taken: how many PANES there are.")
    static void imageOfSomePanes() {
        FrostBids x = new FrostBids();
        due("image()", x.image(), 0);
        for (int i = 1; i <= 6; i++) {
            x.pane(0, 0, 0);
            due("image()", x.image(), i);
        }
    }

    @Edge(promise = 32, says = "THE IMAGE is taken")
    static void imageChangesNothing() {
        FrostBids x = six();
        x.pass(3);
        x.set(0, 1, ice("#.#"));
        x.image();
        due("told(0)", x.told(0), 3);
        due("of(0, 3)", x.of(0, 3), ice("#.#"));
        due("count(0)", x.count(0), 6);
    }

    @Edge(promise = 32, says = "THE IMAGE is taken")
    static void laterImage() {
        FrostBids x = six();
        x.cold(7);
        x.image();
        x.cold(8);
        x.image();
        x.cold(9);
        x.undo();
        due("told(1)", x.told(1), 8);
    }

    @Edge(promise = 33, says = {"STATE: there is none.", "STATE as told"})
    static void undoWithoutAnImage() {
        FrostBids x = six();
        x.cold(7);
        due("undo()", x.undo(), STATE);
        due("count(0)", x.count(0), 6);
        due("told(1)", x.told(1), 7);
        due("undo() of a new object", new FrostBids().undo(), STATE);
    }

    @Edge(promise = 33, says = {"All is as THE IMAGE: how many PANES.", "THE IMAGE: all that there is"})
    static void panesAreTakenBack() {
        FrostBids x = new FrostBids();
        x.pane(1, 2, 3);
        x.image();
        x.pane(4, 5, 6);
        due("undo()", x.undo(), 1);
        due("count(0)", x.count(0), 1);
        due("of(1, 0)", x.of(1, 0), NONE);
        due("of(0, 0)", x.of(0, 0), 1);
        due("of(0, 1)", x.of(0, 1), 2);
    }

    @Edge(promise = 33, says = "All is as THE IMAGE: how many PANES.")
    static void noPanesAreLeft() {
        FrostBids x = new FrostBids();
        x.image();
        x.pane(0, 0, 0);
        due("undo()", x.undo(), 0);
        due("count(0)", x.count(0), 0);
        due("mean(0)", x.mean(0), NO);
        due("told(5)", x.told(5), 0);
    }

    @Edge(promise = 33, says = "THE IMAGE: all that there is")
    static void anotherPaneComesThen() {
        FrostBids x = one(0, 0, 0);
        x.image();
        x.pane(6, 2, 3);
        x.row(1, 0, 9);
        x.set(1, 1, 4095);
        x.shut(1, true);
        x.undo();
        due("pane(6, 4, 5)", x.pane(6, 4, 5), 1);
        int[] want = {6, 4, 5, 0, 0, 0};
        for (int what = 0; what < want.length; what++) {
            due("of(1, " + what + ")", x.of(1, what), want[what]);
        }
        due("row(1, 0, 0)", x.row(1, 0, 0), 0);
        due("act(1, 1, 0)", x.act(1, CREAKS, 0), 1);
    }

    @Edge(promise = 33, says = "THE IMAGE: all that there is")
    static void anotherPaneGrowsByItself() {
        FrostBids x = one(0, 0, 0);
        x.image();
        x.pane(0, 0, 9);
        due("grows(1, 2)", x.grows(1, 2), -4);
        x.undo();
        x.pane(6, 0, 3);
        x.row(1, 2, 9);
        due("grows(1, 2)", x.grows(1, 2), 7);
        due("on(1, 11)", x.on(1, 11), 0);
        x.set(1, 1, ice(".#"));
        due("on(1, 11)", x.on(1, 11), ice(".##"));
        x.see(1, 1, ice("###"));
        due("warms(1)", x.warms(1), 7);
    }

    @Edge(promise = 33, says = "THE IMAGE: all that there is")
    static void warmIsTakenBack() {
        takenBack(x -> x.set(2, 0, 3), x -> x.set(2, 0, 4), x -> x.of(2, 2));
    }

    @Edge(promise = 33, says = "THE IMAGE: all that there is")
    static void iceIsTakenBack() {
        takenBack(x -> x.set(5, 1, ice("#.#")), x -> x.breathe(5), x -> x.of(5, 3));
        takenBack(x -> x.cold(20), x -> x.pass(2), x -> x.of(0, 3));
    }

    @Edge(promise = 33, says = "THE IMAGE: all that there is")
    static void shutIsTakenBack() {
        takenBack(x -> x.shut(2, true), x -> x.shut(2, false), x -> x.of(2, 4));
        takenBack(x -> x.shut(2, false), x -> x.shut(0, true), x -> x.told(6));
    }

    @Edge(promise = 33, says = "THE IMAGE: all that there is")
    static void rowsAreTakenBack() {
        for (int i = 0; i < 4; i++) {
            int k = i;
            takenBack(x -> x.row(5, k, 7), x -> x.row(5, k, 3), x -> x.grows(5, k + 4));
        }
    }

    @Edge(promise = 33, says = "THE IMAGE: all that there is")
    static void coldIsTakenBack() {
        takenBack(x -> x.cold(9), x -> x.cold(10), x -> x.told(1));
    }

    @Edge(promise = 33, says = "THE IMAGE: all that there is")
    static void paidIsTakenBack() {
        takenBack(x -> { x.set(0, 1, ice("##")); x.breathe(0); x.set(0, 1, 1); }, x -> x.breathe(0), x -> x.told(4));
    }

    @Edge(promise = 33, says = "THE IMAGE: all that there is")
    static void hourIsTakenBack() {
        takenBack(x -> x.pass(3), x -> x.pass(1), x -> x.told(0));
    }

    @Edge(promise = 33, says = "THE IMAGE: all that there is")
    static void townsAreTakenBack() {
        takenBack(x -> read(x, "fern 7"), x -> read(x, "fern 8"), x -> x.count(1));
        takenBack(x -> read(x, "fern 7"), x -> read(x, "fern 8"), x -> x.told(2));
        takenBack(x -> read(x, "chill 7 c=3"), x -> read(x, "chill 8 c=3"), x -> x.grows(0, 3));
        takenBack(x -> { }, x -> read(x, "chill 8 c=3;tower 9"), x -> x.grows(0, 3) * 100 + x.told(3));
    }

    @Edge(promise = 33, says = "THE IMAGE: all that there is")
    static void townsComeAgainThen() {
        FrostBids x = one(0, 0, 0, "fern 6;chill 4 c=0");
        x.image();
        for (int i = 1; i < 5; i++) {
            due("town()", read(x, "tower " + i), i);
        }
        due("town()", x.town(), FULL);
        x.undo();
        due("told(2)", x.told(2), 6);
        due("town()", read(x, "chill 9 c=1;"), -22);
        due("grows(0, 0)", x.grows(0, 0), 9);
        due("town()", read(x, "glow 1 c=1"), 1);
        due("grows(0, 0)", x.grows(0, 0), 5);
        due("grows(0, 1)", x.grows(0, 1), 4);
        due("told(3)", x.told(3), 2);
    }

    @Edge(promise = 33, says = "THE IMAGE: all that there is")
    static void tapeIsTakenBack() {
        takenBack(x -> feed(x, "fern"), x -> feed(x, " "), x -> x.count(5));
        takenBack(x -> feed(x, "fern"), x -> x.town(), x -> x.count(5));
        FrostBids x = new FrostBids();
        feed(x, "tower");
        x.image();
        x.town();
        feed(x, "another text, a longer one");
        x.undo();
        due("town()", read(x, " 7"), 0);
        due("told(3)", x.told(3), 7);
    }

    @Edge(promise = 33, says = "THE IMAGE: all that there is")
    static void seenIsTakenBack() {
        takenBack(x -> x.see(0, 1, 0), x -> x.see(0, 0, 9), x -> x.count(2));
        takenBack(x -> x.see(2, 0, 0), x -> { x.see(-1, 0, 0); x.see(1, 0, 5); }, x -> x.colds(0));
    }

    @Edge(promise = 33, says = "THE IMAGE: all that there is")
    static void planIsTakenBack() {
        takenBack(x -> x.plan(0, 0), x -> x.plan(1, 1), x -> x.count(3));
        takenBack(x -> { x.cold(20); x.plan(0, 0); }, x -> { x.plan(-1, 0); x.plan(1, 1); }, x -> x.done(1));
    }

    @Edge(promise = 33, says = "THE IMAGE: all that there is")
    static void bookIsTakenBack() {
        takenBack(x -> x.book(0, 0), x -> x.book(1, 1), x -> x.count(4));
        takenBack(x -> x.book(3, 0), x -> { x.book(-1, 0); x.book(3, 7); }, FrostBids::looked);
    }

    @Edge(promise = 33, says = "(but THE IMAGE and THE TRACE)")
    static void traceStays() {
        FrostBids x = at(3, 4, 6);
        x.act(3, DRIPS, 1);
        x.image();
        x.act(3, CREAKS, 1);
        x.undo();
        traced(x, 2, 11, 1);
    }

    @Edge(promise = 32, says = "(but THE IMAGE and THE TRACE)")
    static void traceStaysByAnImage() {
        FrostBids x = at(3, 4, 6);
        x.act(3, CREAKS, 1);
        x.image();
        traced(x, 2, 11, 1);
    }

    @Edge(promise = 33, says = "(but THE IMAGE and THE TRACE)")
    static void imageStays() {
        FrostBids x = one(0, 0, 0);
        x.image();
        for (int i = 0; i < 3; i++) {
            x.pane(1, 1, 1);
            x.pass(2);
            due("undo()", x.undo(), 1);
            due("told(0)", x.told(0), 0);
            due("count(0)", x.count(0), 1);
        }
    }

    @Edge(promise = 33, says = "All is as THE IMAGE")
    static void nothingIsSharedWithTheImage() {
        FrostBids x = six();
        x.set(0, 1, ice("#"));
        x.image();
        x.undo();
        x.set(0, 1, ice("##"));
        x.row(5, 0, 9);
        x.shut(0, true);
        x.undo();
        due("of(0, 3)", x.of(0, 3), ice("#"));
        due("row(5, 0, 0)", x.row(5, 0, 0), 0);
        due("told(6)", x.told(6), 0);
    }

    // ---- promise 34

    private static FrostBids counted() {
        FrostBids x = one(4, 0, 0);
        x.pane(0, 0, 0);
        for (int i = 0; i < 3; i++) {
            read(x, "fern 1");
        }
        for (int i = 0; i < 4; i++) {
            x.see(0, 0, 0);
        }
        for (int i = 0; i < 5; i++) {
            x.plan(0, 0);
        }
        for (int i = 0; i < 6; i++) {
            x.book(0, 0);
        }
        feed(x, "12345678");
        x.act(0, SHINES, 0);
        return x;
    }

    @Edge(promise = 34, says = {"0 PANES, 1 TOWNS, 2 of SEEN, 3 of the PLAN, 4 rows of BOOK, 5 signs of THE TAPE",
        ", 6 bodies that ran in the latest act()"})
    static void howManyThereAre() {
        int[] want = {2, 3, 4, 5, 6, 8, 7};
        for (int what = 0; what < want.length; what++) {
            due("count(" + what + ")", counted().count(what), want[what]);
        }
    }

    @Edge(promise = 34, says = {"in the latest act() (all, kept or not)"})
    static void bodiesOfTheLatestAct() {
        FrostBids x = counted();
        x.act(1, DRIPS, 0);
        due("count(6)", x.count(6), 1);
        x.act(1, CREAKS, 0);
        due("count(6)", x.count(6), 2);
        x.act(9, CREAKS, 0);
        due("count(6)", x.count(6), 0);
    }

    @Edge(promise = 34, says = "NONE.")
    static void nothingElseIsCounted() {
        refused("count", counted()::count, NONE, -1, 7, 8, LEAST, MOST);
    }
}
