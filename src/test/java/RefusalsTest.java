import java.util.ArrayList;
import java.util.List;
import java.util.function.Consumer;

/** That a call that is refused changes nothing, nor one by which something is only asked; call by call. */
public final class RefusalsTest extends Edges {
    public static void main(String[] args) {
        run(RefusalsTest.class);
    }

    /** An object in which there is something of everything, and an image of something else. */
    private static FrostBids busy() {
        FrostBids x = six();
        x.image();
        x.cold(8);
        read(x, "fern 4;chill 2 c<3;glow 3 h=4");
        x.set(5, 1, ice("#.##"));
        x.set(4, 1, ice("##"));
        x.row(5, 1, 7);
        x.pass(3);
        x.shut(1, true);
        x.set(1, 1, ice(".#.#"));
        x.breathe(4);
        x.see(0, 0, x.of(0, 3));
        x.see(2, 3, x.on(3, 12));
        x.plan(0, 0);
        x.plan(2, 3);
        x.plan(1, 5);
        x.book(1, ice(".#.#"));
        x.book(2, 77);
        feed(x, "tow");
        x.act(3, 2, 5);
        return x;
    }

    /** An object in which there is as much of everything as there can be. */
    private static FrostBids full() {
        FrostBids x = six();
        for (int i = 0; i < 5; i++) {
            read(x, "fern " + i);
        }
        for (int i = 0; i < 5; i++) {
            x.see(i, i, 0);
        }
        for (int i = 0; i < 8; i++) {
            x.plan(i % 4, i % 6);
            x.book(i % 6, 0);
        }
        for (int i = 0; i < 100; i++) {
            x.feed('a');
        }
        x.image();
        x.pass(4);
        return x;
    }

    /** What an object answers when all is asked of it, and then when what can't be asked is done. */
    private static List<Long> answers(FrostBids x) {
        List<Long> answers = new ArrayList<>();
        for (int i = 0; i <= 7; i++) {
            answers.add((long) x.told(i));
            answers.add((long) x.count(i));
            answers.add((long) x.trace(i));
        }
        for (int pane = 0; pane < 6; pane++) {
            for (int i = 0; i <= 5; i++) {
                answers.add((long) x.of(pane, i));
            }
            answers.add((long) x.grows(pane, 1));
            answers.add((long) x.grows(pane, 4));
            answers.add((long) x.on(9, 10 + pane));
            answers.add((long) x.warms(pane));
            answers.add((long) x.firm(pane, 0));
        }
        answers.add((long) x.colds(0));
        answers.add((long) x.colds(1));
        answers.add((long) x.done(0));
        answers.add((long) x.done(1));
        answers.add((long) x.looked());
        feed(x, "er 9");
        answers.add((long) x.town());
        answers.add((long) x.told(3));
        answers.add((long) x.pass(1));
        answers.add((long) x.told(5));
        answers.add((long) x.undo());
        for (int i = 0; i <= 6; i++) {
            answers.add((long) x.told(i));
            answers.add((long) x.count(i));
        }
        return answers;
    }

    /** An object answers all that is asked behind those calls as it does without them. */
    private static void changesNothing(Consumer<FrostBids> calls) {
        FrostBids x = busy();
        calls.accept(x);
        due("a busy object is as it was", answers(x).equals(answers(busy())) ? 1 : 0, 1);
    }

    private static void changesNothingWhenFull(Consumer<FrostBids> calls) {
        FrostBids x = full();
        calls.accept(x);
        due("a full object is as it was", answers(x).equals(answers(full())) ? 1 : 0, 1);
    }

    @Edge(promise = 2, says = "They change nothing.")
    static void feedRefused() {
        changesNothing(x -> { x.feed(-1); x.feed(128); });
        changesNothingWhenFull(x -> { x.feed('x'); x.feed(-1); });
    }

    @Edge(promise = 3, says = "They change nothing.")
    static void townRefused() {
        changesNothingWhenFull(FrostBids::town);
    }

    @Edge(promise = 4, says = "They change nothing.")
    static void paneRefused() {
        changesNothing(x -> { x.pane(7, 0, 0); x.pane(0, 10, 0); x.pane(0, 0, 10); x.pane(0, 0, 0); });
        FrostBids x = one(0, 0, 0);
        x.pane(7, 1, 1);
        x.pane(1, 10, 1);
        x.pane(1, 1, 10);
        due("count(0)", x.count(0), 1);
        due("pane(2, 3, 4)", x.pane(2, 3, 4), 1);
    }

    @Edge(promise = 5, says = "They change nothing.")
    static void ofAsked() {
        changesNothing(x -> { x.of(6, 0); x.of(0, 6); x.of(0, 3); x.of(5, 5); });
    }

    @Edge(promise = 6, says = "They change nothing.")
    static void growsAsked() {
        changesNothing(x -> { x.grows(6, 0); x.grows(0, 12); x.grows(5, 3); x.grows(1, 0); });
    }

    @Edge(promise = 7, says = "They change nothing.")
    static void rowRefused() {
        changesNothing(x -> { x.row(6, 1, 0); x.row(5, 4, 0); x.row(5, 1, 10); x.row(5, 1, -1); x.row(3, 1, 0); });
    }

    @Edge(promise = 8, says = "They change nothing.")
    static void setRefused() {
        changesNothing(x -> { x.set(6, 0, 0); x.set(5, 2, 0); x.set(5, 0, 10); x.set(5, 0, -1); x.set(5, 1, 4096); });
    }

    @Edge(promise = 9, says = "They change nothing.")
    static void coldRefused() {
        changesNothing(x -> { x.cold(21); x.cold(-1); });
    }

    @Edge(promise = 10, says = "They change nothing.")
    static void shutRefused() {
        changesNothing(x -> { x.shut(6, true); x.shut(-1, true); x.shut(7, false); });
    }

    @Edge(promise = 11, says = "They change nothing.")
    static void breatheRefused() {
        changesNothing(x -> { x.breathe(6); x.breathe(-1); });
    }

    @Edge(promise = 12, says = "They change nothing.")
    static void toldAsked() {
        changesNothing(x -> { x.told(-1); x.told(7); x.told(5); x.told(6); });
    }

    @Edge(promise = 13, says = "They change nothing.")
    static void passRefused() {
        changesNothing(x -> { x.pass(-1); x.pass(61); });
    }

    @Edge(promise = 14, says = {"They change nothing.", "and changes nothing. ON"})
    static void onAsked() {
        changesNothing(x -> { x.on(60, 0); x.on(60, 15); x.on(61, 0); x.on(0, 16); });
    }

    @Edge(promise = 15, says = {"They change nothing.", "and changes nothing. ON"})
    static void bestAsked() {
        changesNothing(x -> { x.best(5, 20, 0); x.best(0, 20, 1); });
        changesNothing(x -> { x.best(6, 0, 0); x.best(0, 21, 0); x.best(0, 0, 2); });
    }

    @Edge(promise = 16, says = {"They change nothing.", "and changes nothing. ON"})
    static void heatAsked() {
        changesNothing(x -> { x.heat(5, 20, 0); x.heat(0, 20, 1); });
        changesNothing(x -> { x.heat(6, 0, 0); x.heat(0, 21, 0); x.heat(0, 0, 2); });
    }

    @Edge(promise = 17, says = {"They change nothing.", "and changes nothing. ON"})
    static void comesAsked() {
        changesNothing(x -> { x.comes(5, 4095); x.comes(0, 0); x.comes(6, 0); x.comes(0, 4096); });
    }

    @Edge(promise = 18, says = {"They change nothing.", "and changes nothing. ON"})
    static void breathsAsked() {
        changesNothing(x -> { x.breaths(3, -1); x.breaths(2, 0); x.breaths(1, 2); x.breaths(4, 0); x.breaths(1, 3); });
    }

    @Edge(promise = 19, says = "They change nothing.")
    static void seeRefused() {
        changesNothing(x -> { x.see(6, 0, 0); x.see(-2, 0, 0); x.see(0, 21, 0); x.see(0, 0, 4096); });
        changesNothingWhenFull(x -> { x.see(0, 0, 1); x.see(5, 1, 9); });
    }

    @Edge(promise = 20, says = {"They change nothing.", "and changes nothing. ON"})
    static void coldsAsked() {
        changesNothing(x -> { x.colds(0); x.colds(1); x.colds(2); });
        changesNothingWhenFull(x -> x.colds(0));
    }

    @Edge(promise = 21, says = {"They change nothing.", "and changes nothing. ON"})
    static void warmsAsked() {
        changesNothing(x -> { x.warms(0); x.warms(2); x.warms(6); });
    }

    @Edge(promise = 22, says = {"They change nothing.", "and changes nothing. ON"})
    static void firmAsked() {
        changesNothing(x -> { x.firm(0, 0); x.firm(2, 1); x.firm(6, 0); x.firm(0, 2); });
    }

    @Edge(promise = 23, says = {"They change nothing.", "and changes nothing. ON"})
    static void oddsAsked() {
        changesNothing(x -> { x.odds(0, 60, 9, 0); x.odds(5, 20, 9, 1); x.odds(6, 0, 0, 0); x.odds(0, 0, 0, 2); });
    }

    @Edge(promise = 24, says = {"They change nothing.", "and changes nothing. ON"})
    static void meanAsked() {
        changesNothing(x -> { x.mean(0); x.mean(1); x.mean(2); });
    }

    @Edge(promise = 25, says = "They change nothing.")
    static void planRefused() {
        changesNothing(x -> { x.plan(4, 0); x.plan(-2, 0); x.plan(1, 6); x.plan(3, -1); });
        changesNothingWhenFull(x -> { x.plan(0, 0); x.plan(1, 0); });
    }

    @Edge(promise = 26, says = {"They change nothing.", "and changes nothing. ON"})
    static void doneAsked() {
        changesNothing(x -> { x.done(0); x.done(1); x.done(2); });
        changesNothingWhenFull(x -> { x.done(0); x.done(1); });
    }

    @Edge(promise = 27, says = "They change nothing.")
    static void bookRefused() {
        changesNothing(x -> { x.book(6, 0); x.book(-2, 0); x.book(0, 4096); x.book(0, -1); });
        changesNothingWhenFull(x -> { x.book(0, 5); x.book(5, 5); });
    }

    @Edge(promise = 28, says = "LOOKED at")
    static void lookedAsked() {
        changesNothing(FrostBids::looked);
        changesNothingWhenFull(FrostBids::looked);
    }

    @Edge(promise = 30, says = "They change nothing.")
    static void traceAsked() {
        changesNothing(x -> { x.trace(0); x.trace(6); x.trace(7); x.trace(-1); });
    }

    @Edge(promise = 31, says = "They change nothing.")
    static void asAsked() {
        changesNothing(x -> { x.as(0, 1); x.as(0, 2); x.as(6, 0); x.as(0, 7); });
    }

    @Edge(promise = 33, says = "They change nothing.")
    static void undoRefused() {
        FrostBids x = six();
        feed(x, "tow");
        x.set(3, 1, 9);
        x.undo();
        FrostBids y = six();
        feed(y, "tow");
        y.set(3, 1, 9);
        due("an object without an image is as it was", answers(x).equals(answers(y)) ? 1 : 0, 1);
    }

    @Edge(promise = 34, says = "They change nothing.")
    static void countAsked() {
        changesNothing(x -> { x.count(-1); x.count(7); x.count(6); x.count(5); });
    }
}
