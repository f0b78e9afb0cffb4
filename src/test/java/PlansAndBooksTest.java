/** Promises 25 to 28: PLANS and what is DONE by them, BOOK and what is LOOKED at. */
public final class PlansAndBooksTest extends Edges {
    private static final int HOUR = 0, BREATH = 1, SHUT = 2, OPEN = 3;

    public static void main(String[] args) {
        run(PlansAndBooksTest.class);
    }

    // ---- promise 25

    @Edge(promise = 25, says = {"A row comes to the PLAN: how many there are", "; 8 at most. DONE"})
    static void eightRowsOfAPlan() {
        FrostBids x = six();
        for (int i = 1; i <= 8; i++) {
            due("plan", x.plan(i % 4, 3), i);
            due("count(3)", x.count(3), i);
        }
    }

    @Edge(promise = 25, says = "FULL: 8.")
    static void ninthRowOfAPlan() {
        FrostBids x = one(0, 0, 0);
        for (int i = 0; i < 8; i++) {
            x.plan(HOUR, 0);
        }
        due("plan(0, 0)", x.plan(HOUR, 0), FULL);
        due("plan(2, 0)", x.plan(SHUT, 0), FULL);
        due("count(3)", x.count(3), 8);
        due("done(1)", x.done(1), 3 + 16);
    }

    @Edge(promise = 25, says = {"rows of what 0 an HOUR goes (the other not looked at), 1 one is BREATHED on",
        ", 2 one is SHUT, 3 one is not"})
    static void whatAPlanCanHave() {
        FrostBids x = six();
        for (int what = 0; what <= 3; what++) {
            due("plan(" + what + ", 5)", x.plan(what, 5), what + 1);
        }
    }

    @Edge(promise = 25, says = {"PANE (but by 0)", "(the other not looked at)"})
    static void hourOfAPlanWithoutAPane() {
        FrostBids x = one(0, 0, 0);
        int[] panes = {-1, 1, 6, 99, Integer.MIN_VALUE, Integer.MAX_VALUE};
        for (int i = 0; i < panes.length; i++) {
            due("plan(0, " + panes[i] + ")", x.plan(HOUR, panes[i]), i + 1);
        }
        due("done(1)", x.done(1), 3 + 12);
        due("plan(0, 0) of a new object", new FrostBids().plan(HOUR, 0), 1);
    }

    @Edge(promise = 25, says = "(what -1: none then, 0, whatever the other is)")
    static void noPlanThen() {
        for (int pane : new int[] {-1, 0, 6, 99, Integer.MIN_VALUE, Integer.MAX_VALUE}) {
            FrostBids x = one(0, 0, 0);
            x.plan(HOUR, 0);
            x.plan(HOUR, 0);
            due("plan(-1, " + pane + ")", x.plan(-1, pane), 0);
            due("count(3)", x.count(3), 0);
            due("done(1)", x.done(1), 0);
            due("plan(0, 0)", x.plan(HOUR, 0), 1);
        }
    }

    @Edge(promise = 25, says = "(what -1: none then, 0")
    static void noPlanThenWhenFullOrNew() {
        FrostBids x = one(0, 0, 0);
        for (int i = 0; i < 8; i++) {
            x.plan(HOUR, 0);
        }
        due("plan(-1, 0)", x.plan(-1, 0), 0);
        due("plan(0, 0)", x.plan(HOUR, 0), 1);
        due("plan(-1, 0) of a new object", new FrostBids().plan(-1, 0), 0);
    }

    @Edge(promise = 25, says = "NONE: what,")
    static void planOfNoWhat() {
        FrostBids x = six();
        refused("plan, what", what -> x.plan(what, 0), NONE, -2, 4, 5, Integer.MIN_VALUE, Integer.MAX_VALUE);
        due("count(3)", x.count(3), 0);
    }

    @Edge(promise = 25, says = ", PANE (but by 0)")
    static void planOfNoPane() {
        FrostBids x = six();
        for (int i = BREATH; i <= OPEN; i++) {
            int what = i;
            refusesPanes("plan " + what, pane -> x.plan(what, pane), NONE);
        }
        due("count(3)", x.count(3), 0);
    }

    @Edge(promise = 25, says = "NONE: what, PANE (but by 0); FULL: 8.")
    static void firstOfSeveralRefusalsOfPlan() {
        FrostBids x = six();
        for (int i = 0; i < 8; i++) {
            x.plan(HOUR, 0);
        }
        due("plan(4, 0)", x.plan(4, 0), NONE);
        due("plan(1, 6)", x.plan(BREATH, 6), NONE);
        due("plan(0, 6)", x.plan(HOUR, 6), FULL);
    }

    @Edge(promise = 25, says = "PLAN told by hand")
    static void planDoesNothingByItself() {
        FrostBids x = one(0, 0, 0);
        x.set(0, 1, ice("##"));
        x.plan(SHUT, 0);
        x.plan(BREATH, 0);
        x.plan(HOUR, 0);
        due("told(0)", x.told(0), 0);
        due("told(4)", x.told(4), 0);
        due("told(6)", x.told(6), 0);
        due("of(0, 3)", x.of(0, 3), ice("##"));
    }

    // ---- promise 26

    private static void done(FrostBids x, int paid, int offers) {
        due("done(0)", x.done(0), paid);
        due("done(1)", x.done(1), offers);
    }

    @Edge(promise = 26, says = {"DONE: what 0 PAID", "DONE: PAID; OFFERS of all, together. BOOK"})
    static void doneByNoPlan() {
        done(new FrostBids(), 0, 0);
        FrostBids x = six();
        x.set(0, 1, ice("##"));
        x.breathe(0);
        x.set(1, 1, ice("#"));
        x.set(2, 1, ice("###"));
        done(x, 7, 14);
    }

    @Edge(promise = 26, says = {"0 an HOUR goes", "1 OFFERS of all."})
    static void doneByHours() {
        FrostBids x = one(0, 0, 0);
        x.pane(0, 0, 4);
        x.plan(HOUR, 1);
        x.plan(HOUR, 1);
        done(x, 0, 14);
        for (int i = 0; i < 6; i++) {
            x.plan(HOUR, 0);
        }
        done(x, 0, 38);
    }

    @Edge(promise = 26, says = {"what 0 PAID", ", 1 one is BREATHED on"})
    static void doneByBreaths() {
        FrostBids x = one(0, 0, 0);
        x.pane(0, 0, 4);
        x.set(0, 1, ice("#"));
        x.breathe(0);
        x.plan(HOUR, 0);
        x.plan(HOUR, 0);
        x.plan(BREATH, 1);
        done(x, 5 + 7, 7);
        x.plan(BREATH, 1);
        done(x, 5 + 7, 7);
        x.plan(HOUR, 0);
        x.plan(BREATH, 1);
        x.plan(BREATH, 0);
        done(x, 5 + 7 + 5 + 9, 0);
    }

    @Edge(promise = 26, says = ", 2 one is SHUT,")
    static void doneByShutting() {
        FrostBids x = one(0, 0, 0);
        x.pane(0, 0, 4);
        x.plan(SHUT, 0);
        x.plan(HOUR, 0);
        x.plan(HOUR, 0);
        done(x, 0, 7);
        x.plan(SHUT, 0);
        x.plan(HOUR, 0);
        done(x, 0, 9);
    }

    @Edge(promise = 26, says = ", 3 one is not")
    static void doneByOpening() {
        FrostBids x = one(0, 0, 0);
        x.pane(0, 0, 4);
        x.shut(0, true);
        x.shut(1, true);
        x.plan(HOUR, 0);
        x.plan(OPEN, 1);
        x.plan(HOUR, 0);
        done(x, 0, 5);
        x.plan(SHUT, 1);
        x.plan(OPEN, 0);
        x.plan(HOUR, 0);
        done(x, 0, 10);
    }

    @Edge(promise = 26, says = "1 one is BREATHED on, 2 one is SHUT")
    static void doneByABreathOnAShutOne() {
        FrostBids x = one(0, 0, 0);
        x.set(0, 1, ice("###"));
        x.shut(0, true);
        x.plan(BREATH, 0);
        x.plan(HOUR, 0);
        done(x, 9, 0);
    }

    @Edge(promise = 26, says = "PLAN told by hand: rows")
    static void rowsOfAPlanInTheirOrder() {
        FrostBids x = one(0, 0, 0);
        x.plan(BREATH, 0);
        x.plan(HOUR, 0);
        done(x, 0, 5);
        x.plan(-1, 0);
        x.plan(HOUR, 0);
        x.plan(BREATH, 0);
        done(x, 5, 0);
    }

    @Edge(promise = 26, says = "0 an HOUR goes")
    static void hoursOfAPlanGoOn() {
        FrostBids x = one(0, 0, 0, "glow 90 h=2");
        x.pass(1);
        x.plan(HOUR, 0);
        done(x, 0, 7);
        x.plan(HOUR, 0);
        done(x, 0, 0);
        x.plan(HOUR, 0);
        done(x, 0, 5);
    }

    @Edge(promise = 26, says = ", PAID not held, too)")
    static void paidIsNotHeldByAPlan() {
        FrostBids x = rich();
        x.set(0, 1, 4095);
        x.plan(BREATH, 0);
        done(x, 999999 + 27, 0);
    }

    @Edge(promise = 26, says = "(HOUR beyond 9999")
    static void doneBeyondTheLastHour() {
        FrostBids x = last(0, 0, 9);
        read(x, "chill 9 h=0|h=1");
        x.plan(HOUR, 0);
        done(x, 0, 0);
        x.plan(HOUR, 0);
        x.plan(HOUR, 0);
        x.plan(HOUR, 0);
        done(x, 0, 7);
    }

    @Edge(promise = 26, says = "and changes nothing. ON")
    static void doneChangesNothing() {
        FrostBids x = one(0, 0, 0);
        x.set(0, 1, ice("##"));
        x.plan(HOUR, 0);
        x.plan(BREATH, 0);
        x.plan(SHUT, 0);
        done(x, 9, 0);
        done(x, 9, 0);
        due("told(0)", x.told(0), 0);
        due("told(4)", x.told(4), 0);
        due("told(6)", x.told(6), 0);
        due("of(0, 3)", x.of(0, 3), ice("##"));
        due("on(1, 10)", x.on(1, 10), ice("###"));
    }

    @Edge(promise = 26, says = "NONE.")
    static void doneOfNoWhat() {
        FrostBids x = six();
        refused("done", x::done, NONE, -1, 2, 3, Integer.MIN_VALUE, Integer.MAX_VALUE);
    }

    // ---- promise 27

    @Edge(promise = 27, says = {"A row comes to BOOK: how many there are",
        "BOOK told by hand: PANES and ICE; 8 at most. LOOKED"})
    static void eightRowsOfABook() {
        FrostBids x = six();
        for (int i = 1; i <= 8; i++) {
            due("book", x.book(i % 6, i), i);
            due("count(4)", x.count(4), i);
        }
    }

    @Edge(promise = 27, says = "FULL: 8.")
    static void ninthRowOfABook() {
        FrostBids x = six();
        for (int i = 0; i < 8; i++) {
            x.book(0, 0);
        }
        due("book(0, 1)", x.book(0, 1), FULL);
        due("count(4)", x.count(4), 8);
        due("looked()", x.looked(), NOT_FOUND);
    }

    @Edge(promise = 27, says = "PANES and ICE")
    static void leastAndGreatestOfABook() {
        FrostBids x = six();
        due("book(0, 0)", x.book(0, 0), 1);
        due("book(5, 4095)", x.book(5, 4095), 2);
    }

    @Edge(promise = 27, says = "(pane -1: none then, 0, whatever the other is)")
    static void noBookThen() {
        for (int ice : new int[] {-1, 0, 4095, 4096, Integer.MIN_VALUE, Integer.MAX_VALUE}) {
            FrostBids x = one(0, 0, 0);
            x.book(0, 1);
            x.book(0, 1);
            due("book(-1, " + ice + ")", x.book(-1, ice), 0);
            due("count(4)", x.count(4), 0);
            due("looked()", x.looked(), NOT_FOUND);
            due("book(0, 0)", x.book(0, 0), 1);
        }
    }

    @Edge(promise = 27, says = "(pane -1: none then, 0")
    static void noBookThenWhenFullOrNew() {
        FrostBids x = one(0, 0, 0);
        for (int i = 0; i < 8; i++) {
            x.book(0, 0);
        }
        due("book(-1, 0)", x.book(-1, 0), 0);
        due("book(0, 0)", x.book(0, 0), 1);
        due("book(-1, 0) of a new object", new FrostBids().book(-1, 0), 0);
    }

    @Edge(promise = 27, says = "NONE;")
    static void bookOfNoPane() {
        FrostBids x = six();
        refused("book, pane", pane -> x.book(pane, 0), NONE, -2, 6, 7, Integer.MIN_VALUE, Integer.MAX_VALUE);
        due("count(4)", x.count(4), 0);
        due("book(0, 0) of a new object", new FrostBids().book(0, 0), NONE);
    }

    @Edge(promise = 27, says = "BAD: ice;")
    static void bookOfIceBesideItsEdges() {
        FrostBids x = six();
        refused("book, ice", ice -> x.book(0, ice), BAD, -1, 4096, Integer.MIN_VALUE, Integer.MAX_VALUE);
        due("count(4)", x.count(4), 0);
    }

    @Edge(promise = 27, says = "NONE; BAD: ice; FULL: 8.")
    static void firstOfSeveralRefusalsOfBook() {
        FrostBids x = six();
        due("book(6, 4096)", x.book(6, 4096), NONE);
        for (int i = 0; i < 8; i++) {
            x.book(0, 0);
        }
        due("book(6, 0)", x.book(6, 0), NONE);
        due("book(-2, 0)", x.book(-2, 0), NONE);
        due("book(0, 4096)", x.book(0, 4096), BAD);
        due("book(0, -1)", x.book(0, -1), BAD);
        due("book(0, 0)", x.book(0, 0), FULL);
    }

    // ---- promise 28

    @Edge(promise = 28, says = {"-5.", "(-5: none). ACTS"})
    static void lookedAtNoBook() {
        due("looked()", new FrostBids().looked(), NOT_FOUND);
        due("looked()", six().looked(), NOT_FOUND);
    }

    @Edge(promise = 28, says = "-5.")
    static void lookedAtABookThatIsSo() {
        FrostBids x = six();
        x.set(5, 1, 4095);
        x.book(0, 0);
        x.book(5, 4095);
        due("looked()", x.looked(), NOT_FOUND);
    }

    @Edge(promise = 28, says = {"LOOKED at", "LOOKED at: the first by which it is otherwise"})
    static void firstRowThatIsOtherwise() {
        for (int wrong = 0; wrong < 8; wrong++) {
            FrostBids x = six();
            for (int i = 0; i < 8; i++) {
                x.book(i % 6, i >= wrong ? 9 : 0);
            }
            due("looked()", x.looked(), wrong);
        }
    }

    @Edge(promise = 28, says = "the first by which it is otherwise")
    static void onlyTheLastRowIsOtherwise() {
        FrostBids x = six();
        for (int i = 0; i < 8; i++) {
            x.book(i % 6, i == 7 ? 2048 : 0);
        }
        due("looked()", x.looked(), 7);
    }

    @Edge(promise = 28, says = "it is otherwise now")
    static void lookedAtHowItIsNow() {
        FrostBids x = six();
        x.book(0, 0);
        x.book(1, ice("#"));
        due("looked()", x.looked(), 1);
        x.set(1, 1, ice("#"));
        due("looked()", x.looked(), NOT_FOUND);
        x.set(0, 1, ice("##"));
        due("looked()", x.looked(), 0);
        x.breathe(0);
        due("looked()", x.looked(), NOT_FOUND);
        x.set(1, 1, ice("##"));
        due("looked()", x.looked(), 1);
    }
}
