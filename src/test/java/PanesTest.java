/** Promises 4, 5 and 7 to 12: PANES, what they are and what is changed of them by hand, and what is told of all. */
public final class PanesTest extends Edges {
    public static void main(String[] args) {
        run(PanesTest.class);
    }

    // ---- promise 4

    @Edge(promise = 4, says = {"One of PANES: its number.", "PANES are numbered from 0 on, 6 at most"})
    static void numbersOfPanes() {
        FrostBids x = new FrostBids();
        for (int i = 0; i < 6; i++) {
            due("pane(" + (6 - i) + ", 0, 0)", x.pane(6 - i, 0, 0), i);
            due("of(" + i + ", 0)", x.of(i, 0), 6 - i);
            due("count(0)", x.count(0), i + 1);
        }
    }

    @Edge(promise = 4, says = {"FULL: 6.", "PANES are numbered from 0 on, 6 at most"})
    static void seventhPane() {
        FrostBids x = six();
        due("pane(0, 0, 0)", x.pane(0, 0, 0), FULL);
        due("count(0)", x.count(0), 6);
        due("of(5, 0)", x.of(5, 0), 6);
    }

    @Edge(promise = 4, says = {"each of a KIND: 0 PANE; 1 KITCHEN, 2 NURSERY, 3 RECTORY under PANE;",
        "4 JAIL under KITCHEN; 5 CHURCH under NURSERY; 6 TOLD under RECTORY"})
    static void kindsThatThereAre() {
        for (int kind = 0; kind <= 6; kind++) {
            FrostBids x = new FrostBids();
            due("pane(" + kind + ", 0, 0)", x.pane(kind, 0, 0), 0);
            due("of(0, 0)", x.of(0, 0), kind);
        }
    }

    @Edge(promise = 4, says = {"NONE: kind", "NONE there is no such PANE, KIND, CELL, what, part, k, i"})
    static void kindsThatThereAreNot() {
        FrostBids x = new FrostBids();
        refused("pane, kind", kind -> x.pane(kind, 0, 0), NONE, -1, 7, 8, 256, Integer.MIN_VALUE, Integer.MAX_VALUE);
        due("count(0)", x.count(0), 0);
    }

    @Edge(promise = 4, says = {"a number v (0 .. 9)", "WARM (0 .. 9), ICE"})
    static void leastAndGreatestVAndWarm() {
        FrostBids x = new FrostBids();
        due("pane(0, 0, 9)", x.pane(0, 0, 9), 0);
        due("pane(0, 9, 0)", x.pane(0, 9, 0), 1);
        due("of(0, 1)", x.of(0, 1), 0);
        due("of(0, 2)", x.of(0, 2), 9);
        due("of(1, 1)", x.of(1, 1), 9);
        due("of(1, 2)", x.of(1, 2), 0);
    }

    @Edge(promise = 4, says = "BAD: v,")
    static void vBesideItsEdges() {
        FrostBids x = new FrostBids();
        refused("pane, v", v -> x.pane(0, v, 0), BAD, -1, 10, Integer.MIN_VALUE, Integer.MAX_VALUE);
        due("count(0)", x.count(0), 0);
    }

    @Edge(promise = 4, says = "warm;")
    static void warmBesideItsEdges() {
        FrostBids x = new FrostBids();
        refused("pane, warm", warm -> x.pane(0, 0, warm), BAD, -1, 10, Integer.MIN_VALUE, Integer.MAX_VALUE);
        due("count(0)", x.count(0), 0);
    }

    @Edge(promise = 4, says = "NONE: kind; BAD: v, warm; FULL: 6.")
    static void firstOfSeveralRefusalsOfAPane() {
        FrostBids x = new FrostBids();
        due("pane(7, 10, 0)", x.pane(7, 10, 0), NONE);
        due("pane(-1, 0, 10)", x.pane(-1, 0, 10), NONE);
        FrostBids y = six();
        due("pane(7, 10, 10)", y.pane(7, 10, 10), NONE);
        due("pane(7, 0, 0)", y.pane(7, 0, 0), NONE);
        due("pane(0, 10, 0)", y.pane(0, 10, 0), BAD);
        due("pane(0, 0, -1)", y.pane(0, 0, -1), BAD);
        due("pane(0, 0, 0)", y.pane(0, 0, 0), FULL);
    }

    @Edge(promise = 4, says = "as bits (0 .. 4095; 0 at first)")
    static void iceAtFirst() {
        due("of(0, 3)", one(0, 9, 9).of(0, 3), 0);
    }

    @Edge(promise = 4, says = ", SHUT, or not (not at first)")
    static void notShutAtFirst() {
        due("of(0, 4)", one(0, 9, 9).of(0, 4), 0);
    }

    @Edge(promise = 4, says = "; TOLD ones a ROW of four numbers (0 .. 9; 0 at first)")
    static void rowAtFirst() {
        FrostBids x = one(6, 9, 0);
        for (int k = 0; k < 4; k++) {
            due("grows(0, " + k + ")", x.grows(0, k), 1);
            due("row(0, " + k + ", 0)", x.row(0, k, 0), 0);
        }
    }

    // ---- promise 5

    @Edge(promise = 5, says = "Of a PANE what 0 KIND")
    static void kindOfAPane() {
        due("of(3, 0)", six().of(3, 0), 4);
    }

    @Edge(promise = 5, says = "1 v")
    static void vOfAPane() {
        due("of(3, 1)", six().of(3, 1), 3);
    }

    @Edge(promise = 5, says = "2 WARM")
    static void warmOfAPane() {
        due("of(3, 2)", six().of(3, 2), 6);
    }

    @Edge(promise = 5, says = {"3 ICE (bits)", "which of its CELLS 0 .. 11, which lie in a row, are frozen"})
    static void iceOfAPane() {
        FrostBids x = six();
        x.set(3, 1, ice("#..#.......#"));
        due("of(3, 3)", x.of(3, 3), 1 + 8 + 2048);
        due("of(2, 3)", x.of(2, 3), 0);
    }

    @Edge(promise = 5, says = "4 whether it is SHUT")
    static void whetherAPaneIsShut() {
        FrostBids x = six();
        x.shut(3, true);
        due("of(3, 4)", x.of(3, 4), 1);
        due("of(2, 4)", x.of(2, 4), 0);
    }

    @Edge(promise = 5, says = "NONE.")
    static void paneThatIsNot() {
        FrostBids x = six();
        refusesPanes("of", pane -> x.of(pane, 0), NONE);
        due("of a new object", new FrostBids().of(0, 0), NONE);
        due("of(1, 0) of one", one(0, 0, 0).of(1, 0), NONE);
    }

    @Edge(promise = 5, says = "NONE.")
    static void whatThatIsNot() {
        FrostBids x = six();
        refused("of, what", what -> x.of(0, what), NONE, -1, 6, 7, Integer.MIN_VALUE, Integer.MAX_VALUE);
    }

    /** OFFER of an ICE, by a FERN of 10 and a TOWER of 1. */
    private static void offer(String cells, int want) {
        FrostBids x = one(0, 0, 0, "fern 10;tower 1");
        x.set(0, 1, ice(cells));
        due("OFFER of " + cells, x.of(0, 5), want);
    }

    @Edge(promise = 5, says = {"5 OFFER.", "OFFER of one by its ICE"})
    static void offerOfNoIce() {
        offer("............", 0);
    }

    @Edge(promise = 5, says = "a run is of frozen CELLS one beside the other, as many as there are")
    static void offerOfAllFrozen() {
        offer("############", 22);
    }

    @Edge(promise = 5, says = "a run is of frozen CELLS one beside the other")
    static void offerAtBothEnds() {
        offer("#...........", 11);
        offer("...........#", 11);
        offer("#..........#", 21);
    }

    @Edge(promise = 5, says = "FERN for each run")
    static void offerOfMostRuns() {
        offer("#.#.#.#.#.#.", 61);
        offer(".#.#.#.#.#.#", 61);
    }

    @Edge(promise = 5, says = "and TOWER for each CELL of the longest, together.")
    static void longestRunAtEachPlace() {
        offer("####.#.##...", 34);
        offer(".#.####.##..", 34);
        offer("##..#...####", 34);
    }

    @Edge(promise = 5, says = "and TOWER for each CELL of the longest, together.")
    static void longestRunOfSeveralAlike() {
        offer("###..###.###", 33);
    }

    @Edge(promise = 5, says = {"5 OFFER.", "FERN (3 without)", "TOWER (2 without)"})
    static void offerWithoutATown() {
        FrostBids x = one(0, 0, 0);
        x.set(0, 1, ice("##.#"));
        due("of(0, 5)", x.of(0, 5), 6 + 4);
    }

    // ---- promise 7

    @Edge(promise = 7, says = "The ROW of a TOLD one becomes n (0 .. 9)")
    static void leastAndGreatestOfARow() {
        FrostBids x = six();
        due("row(5, 0, 9)", x.row(5, 0, 9), 0);
        due("row(5, 0, 0)", x.row(5, 0, 0), 9);
        due("row(5, 0, 1)", x.row(5, 0, 1), 0);
    }

    @Edge(promise = 7, says = "for CELLS modulo 4 being k")
    static void placesOfARow() {
        FrostBids x = one(6, 0, 5);
        for (int k = 0; k < 4; k++) {
            due("row", x.row(0, k, k + 5), 0);
        }
        for (int cell = 0; cell < 12; cell++) {
            due("grows(0, " + cell + ")", x.grows(0, cell), cell % 4 + 5 - 4);
        }
    }

    @Edge(promise = 7, says = ": what it was.")
    static void whatARowWas() {
        FrostBids x = six();
        due("row(5, 3, 7)", x.row(5, 3, 7), 0);
        due("row(5, 2, 6)", x.row(5, 2, 6), 0);
        due("row(5, 3, 1)", x.row(5, 3, 1), 7);
        due("row(5, 2, 1)", x.row(5, 2, 1), 6);
    }

    @Edge(promise = 7, says = "NONE: pane,")
    static void rowOfNoPane() {
        FrostBids x = six();
        refusesPanes("row", pane -> x.row(pane, 0, 0), NONE);
    }

    @Edge(promise = 7, says = ", k;")
    static void placeThatIsNotInARow() {
        FrostBids x = six();
        refused("row, k", k -> x.row(5, k, 0), NONE, -1, 4, 5, Integer.MIN_VALUE, Integer.MAX_VALUE);
    }

    @Edge(promise = 7, says = "BAD;")
    static void numberBesideARowsEdges() {
        FrostBids x = six();
        x.row(5, 0, 4);
        refused("row, n", n -> x.row(5, 0, n), BAD, -1, 10, Integer.MIN_VALUE, Integer.MAX_VALUE);
        due("row(5, 0, 0)", x.row(5, 0, 0), 4);
    }

    @Edge(promise = 7, says = {"STATE: another KIND.", "STATE as told"})
    static void rowOfEachOtherKind() {
        FrostBids x = six();
        for (int pane = 0; pane < 5; pane++) {
            due("row(" + pane + ", 0, 0)", x.row(pane, 0, 0), STATE);
        }
        due("row of a PANE", one(0, 0, 0).row(0, 0, 0), STATE);
    }

    @Edge(promise = 7, says = "NONE: pane, k; BAD; STATE: another KIND.")
    static void firstOfSeveralRefusalsOfARow() {
        FrostBids x = six();
        due("row(6, 0, 10)", x.row(6, 0, 10), NONE);
        due("row(0, 4, 10)", x.row(0, 4, 10), NONE);
        due("row(0, 4, 0)", x.row(0, 4, 0), NONE);
        due("row(5, 4, 10)", x.row(5, 4, 10), NONE);
        due("row(0, 0, 10)", x.row(0, 0, 10), BAD);
        due("row(0, 0, -1)", x.row(0, 0, -1), BAD);
    }

    // ---- promise 8

    @Edge(promise = 8, says = {"Of one 0 WARM", "becomes n: what it was."})
    static void warmIsSet() {
        FrostBids x = six();
        due("set(2, 0, 0)", x.set(2, 0, 0), 7);
        due("of(2, 2)", x.of(2, 2), 0);
        due("set(2, 0, 9)", x.set(2, 0, 9), 0);
        due("of(2, 2)", x.of(2, 2), 9);
        due("of(3, 2)", x.of(3, 2), 6);
        due("of(2, 3)", x.of(2, 3), 0);
    }

    @Edge(promise = 8, says = {"1 ICE becomes n: what it was."})
    static void iceIsSet() {
        FrostBids x = six();
        due("set(2, 1, 4095)", x.set(2, 1, 4095), 0);
        due("of(2, 3)", x.of(2, 3), 4095);
        due("set(2, 1, 0)", x.set(2, 1, 0), 4095);
        due("of(2, 3)", x.of(2, 3), 0);
        due("of(2, 2)", x.of(2, 2), 7);
    }

    @Edge(promise = 8, says = "BAD.")
    static void warmSetBesideItsEdges() {
        FrostBids x = six();
        refused("set, warm", n -> x.set(2, 0, n), BAD, -1, 10, 4095, Integer.MIN_VALUE, Integer.MAX_VALUE);
        due("of(2, 2)", x.of(2, 2), 7);
    }

    @Edge(promise = 8, says = "BAD.")
    static void iceSetBesideItsEdges() {
        FrostBids x = six();
        x.set(2, 1, 10);
        refused("set, ice", n -> x.set(2, 1, n), BAD, -1, 4096, 8191, Integer.MIN_VALUE, Integer.MAX_VALUE);
        due("of(2, 3)", x.of(2, 3), 10);
    }

    @Edge(promise = 8, says = "NONE: pane,")
    static void setOfNoPane() {
        FrostBids x = six();
        refusesPanes("set", pane -> x.set(pane, 0, 0), NONE);
    }

    @Edge(promise = 8, says = ", what;")
    static void setOfNoWhat() {
        FrostBids x = six();
        refused("set, what", what -> x.set(2, what, 0), NONE, -1, 2, 3, Integer.MIN_VALUE, Integer.MAX_VALUE);
    }

    @Edge(promise = 8, says = "NONE: pane, what; BAD.")
    static void firstOfSeveralRefusalsOfSet() {
        FrostBids x = six();
        due("set(6, 0, 10)", x.set(6, 0, 10), NONE);
        due("set(0, 2, -1)", x.set(0, 2, -1), NONE);
    }

    // ---- promise 9

    @Edge(promise = 9, says = "COLD becomes n: what it was.")
    static void leastAndGreatestCold() {
        FrostBids x = new FrostBids();
        due("cold(20)", x.cold(20), 5);
        due("told(1)", x.told(1), 20);
        due("cold(0)", x.cold(0), 20);
        due("told(1)", x.told(1), 0);
        due("cold(3)", x.cold(3), 0);
    }

    @Edge(promise = 9, says = "BAD.")
    static void coldBesideItsEdges() {
        FrostBids x = new FrostBids();
        refused("cold", x::cold, BAD, -1, 21, Integer.MIN_VALUE, Integer.MAX_VALUE);
        due("told(1)", x.told(1), 5);
    }

    // ---- promise 10

    @Edge(promise = 10, says = "One is SHUT, or not")
    static void shutAndNot() {
        FrostBids x = six();
        x.shut(3, true);
        due("of(3, 4)", x.of(3, 4), 1);
        due("told(6)", x.told(6), 8);
        x.shut(3, false);
        due("of(3, 4)", x.of(3, 4), 0);
        due("told(6)", x.told(6), 0);
    }

    @Edge(promise = 10, says = ": whether it was.")
    static void whetherItWasShut() {
        FrostBids x = six();
        due("shut(3, false)", x.shut(3, false), 0);
        due("shut(3, true)", x.shut(3, true), 0);
        due("shut(3, true)", x.shut(3, true), 1);
        due("shut(2, true)", x.shut(2, true), 0);
        due("shut(3, false)", x.shut(3, false), 1);
        due("shut(3, false)", x.shut(3, false), 0);
    }

    @Edge(promise = 10, says = "NONE.")
    static void shutOfNoPane() {
        FrostBids x = six();
        refusesPanes("shut", pane -> x.shut(pane, true), NONE);
        refusesPanes("shut", pane -> x.shut(pane, false), NONE);
        due("told(6)", x.told(6), 0);
    }

    // ---- promise 11

    @Edge(promise = 11, says = "One is BREATHED on: its OFFER.")
    static void breathTakesTheOffer() {
        FrostBids x = six();
        x.set(1, 1, ice("#.#"));
        due("breathe(1)", x.breathe(1), 8);
        read(x, "fern 0;tower 9");
        x.set(1, 1, ice("#.##"));
        due("breathe(1)", x.breathe(1), 18);
    }

    @Edge(promise = 11, says = ": PAID is its OFFER more")
    static void breathsArePaidTogether() {
        FrostBids x = six();
        x.set(1, 1, ice("#.#"));
        x.set(2, 1, ice("##"));
        x.breathe(1);
        due("told(4)", x.told(4), 8);
        x.breathe(2);
        due("told(4)", x.told(4), 15);
    }

    @Edge(promise = 11, says = ", its ICE is none.")
    static void iceIsNoneBehindABreath() {
        FrostBids x = six();
        x.set(1, 1, 4095);
        x.set(2, 1, 4095);
        x.breathe(1);
        due("of(1, 3)", x.of(1, 3), 0);
        due("of(2, 3)", x.of(2, 3), 4095);
        due("breathe(1)", x.breathe(1), 0);
        due("told(4)", x.told(4), 27);
    }

    @Edge(promise = 11, says = "One is BREATHED on")
    static void shutPaneIsBreathedOn() {
        FrostBids x = six();
        x.set(1, 1, ice("#"));
        x.shut(1, true);
        due("breathe(1)", x.breathe(1), 5);
        due("of(1, 3)", x.of(1, 3), 0);
        due("of(1, 4)", x.of(1, 4), 1);
    }

    @Edge(promise = 11, says = "NONE.")
    static void breathOnNoPane() {
        FrostBids x = six();
        refusesPanes("breathe", x::breathe, NONE);
        due("breathe(0) of a new object", new FrostBids().breathe(0), NONE);
    }

    @Edge(promise = 11, says = "(999999 at most)")
    static void paidIsHeld() {
        FrostBids x = rich();
        x.set(0, 1, 1);
        due("breathe(0)", x.breathe(0), 5);
        due("told(4)", x.told(4), 999999);
        x.set(0, 1, 4095);
        due("breathe(0)", x.breathe(0), 27);
        due("told(4)", x.told(4), 999999);
    }

    @Edge(promise = 11, says = ": PAID is its OFFER more")
    static void paidIsNotHeldEarlier() {
        FrostBids x = new FrostBids();
        for (int pane = 0; pane < 6; pane++) {
            x.pane(0, 0, 0);
        }
        read(x, "fern 99;tower 99");
        for (int round = 1; round <= 65; round++) {
            x.pass(12);
            for (int pane = 0; pane < 6; pane++) {
                x.breathe(pane);
            }
        }
        due("told(4)", x.told(4), 65 * 6 * 1287);
    }

    // ---- promise 12

    @Edge(promise = 12, says = "What 0 HOUR")
    static void hourIsTold() {
        FrostBids x = six();
        x.pass(7);
        due("told(0)", x.told(0), 7);
    }

    @Edge(promise = 12, says = "1 COLD")
    static void coldIsTold() {
        FrostBids x = six();
        x.cold(17);
        due("told(1)", x.told(1), 17);
    }

    @Edge(promise = 12, says = {"2 FERN", "3 TOWER"})
    static void fernAndTowerAreTold() {
        FrostBids x = six();
        read(x, "tower 12;fern 11");
        due("told(2)", x.told(2), 11);
        due("told(3)", x.told(3), 12);
    }

    @Edge(promise = 12, says = "4 PAID")
    static void paidIsTold() {
        FrostBids x = six();
        x.set(4, 1, ice("###"));
        due("told(4)", x.told(4), 0);
        x.breathe(4);
        due("told(4)", x.told(4), 9);
    }

    @Edge(promise = 12, says = "5 OFFERS of all, together")
    static void offersAreTold() {
        FrostBids x = six();
        x.set(0, 1, ice("#.#"));
        x.set(5, 1, ice("##"));
        x.shut(5, true);
        due("told(5)", x.told(5), 8 + 7);
        x.breathe(0);
        due("told(5)", x.told(5), 7);
    }

    @Edge(promise = 12, says = "6 which are SHUT (bits).")
    static void shutPanesAreTold() {
        FrostBids x = six();
        x.shut(0, true);
        x.shut(2, true);
        x.shut(5, true);
        due("told(6)", x.told(6), 1 + 4 + 32);
        for (int pane = 0; pane < 6; pane++) {
            x.shut(pane, true);
        }
        due("told(6)", x.told(6), 63);
    }

    @Edge(promise = 12, says = "NONE.")
    static void nothingElseIsTold() {
        FrostBids x = six();
        refused("told", x::told, NONE, -1, 7, 8, Integer.MIN_VALUE, Integer.MAX_VALUE);
    }
}
