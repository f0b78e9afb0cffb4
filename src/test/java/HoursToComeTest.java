/** Promises 14 to 18: what is asked of HOURS to come. */
public final class HoursToComeTest extends Edges {
    /** By this and a WARM of 4, one freezes CELL 0 in the first HOUR, and one more in each whose h is 9. */
    private static final String SLOWLY = "glow 4 !h=9&c>0";

    public static void main(String[] args) {
        run(HoursToComeTest.class);
    }

    // ---- promise 14

    @Edge(promise = 14, says = {"ON: what 0 OFFERS of all", "; OFFERS of all, together. BEST"})
    static void offersOfAll() {
        FrostBids x = one(0, 0, 0);
        x.pane(0, 0, 4);
        x.pane(0, 0, 5);
        due("on(1, 0)", x.on(1, 0), 10);
        due("on(3, 0)", x.on(3, 0), 18);
        due("on(20, 0)", x.on(20, 0), 54);
    }

    @Edge(promise = 14, says = {"10 and p ICE of PANE p.", "ON n HOURS (0 .. 60): ICE of one"})
    static void iceOfOne() {
        FrostBids x = one(0, 0, 0);
        x.pane(0, 0, 4);
        x.pane(0, 0, 5);
        x.set(1, 1, ice("......#"));
        due("on(3, 10)", x.on(3, 10), ice("###"));
        due("on(3, 11)", x.on(3, 11), ice("##########"));
        due("on(3, 12)", x.on(3, 12), 0);
    }

    @Edge(promise = 14, says = "ON n HOURS (0 .. 60): ICE of one")
    static void onNoHours() {
        FrostBids x = six();
        x.set(5, 1, ice("#.#"));
        due("on(0, 0)", x.on(0, 0), 8);
        due("on(0, 15)", x.on(0, 15), ice("#.#"));
        due("on(0, 10)", x.on(0, 10), 0);
    }

    @Edge(promise = 14, says = "ON n HOURS (0 .. 60): ICE of one")
    static void onMostHours() {
        FrostBids x = one(0, 0, 4, SLOWLY);
        due("on(59, 10)", x.on(59, 10), ice("######"));
        due("on(60, 10)", x.on(60, 10), ice("#######"));
        due("on(60, 0)", x.on(60, 0), 3 + 14);
    }

    @Edge(promise = 14, says = "BAD: n.")
    static void onHoursBesideTheirEdges() {
        FrostBids x = six();
        refused("on, n", n -> x.on(n, 0), BAD, -1, 61, 62, Integer.MIN_VALUE, Integer.MAX_VALUE);
        refused("on, n", n -> x.on(n, 15), BAD, -1, 61, Integer.MIN_VALUE, Integer.MAX_VALUE);
    }

    @Edge(promise = 14, says = "NONE;")
    static void onNoWhat() {
        FrostBids x = six();
        refused("on, what", what -> x.on(1, what), NONE, -1, 1, 9, 16, 17, Integer.MIN_VALUE, Integer.MAX_VALUE);
    }

    @Edge(promise = 14, says = "NONE;")
    static void onPanesThatComeLater() {
        FrostBids x = new FrostBids();
        due("on(5, 0) of a new object", x.on(5, 0), 0);
        due("on(5, 10) of a new object", x.on(5, 10), NONE);
        x.pane(0, 0, 0);
        due("on(5, 10)", x.on(5, 10), ice("#####"));
        due("on(5, 11)", x.on(5, 11), NONE);
    }

    @Edge(promise = 14, says = "NONE; BAD: n.")
    static void firstOfSeveralRefusalsOfOn() {
        FrostBids x = six();
        due("on(61, 16)", x.on(61, 16), NONE);
        due("on(-1, 1)", x.on(-1, 1), NONE);
    }

    @Edge(promise = 14, says = "All that follows is asked, goes on from how all is")
    static void onFromHowAllIs() {
        FrostBids x = six();
        x.cold(10);
        x.row(5, 2, 9);
        x.shut(1, true);
        x.set(1, 1, ice("..##"));
        x.set(3, 1, ice(".....#"));
        x.pass(2);
        read(x, "chill 9 c=2;glow 3 h=7;tower 7");
        int[] ices = new int[6];
        for (int pane = 0; pane < 6; pane++) {
            ices[pane] = x.on(9, 10 + pane);
        }
        int offers = x.on(9, 0);
        x.pass(9);
        for (int pane = 0; pane < 6; pane++) {
            due("on(9, " + (10 + pane) + ")", ices[pane], x.of(pane, 3));
        }
        due("on(9, 0)", offers, x.told(5));
        due("the SHUT one", ices[1], ice("..##"));
    }

    @Edge(promise = 14, says = "(HOUR beyond 9999")
    static void onBeyondTheLastHour() {
        FrostBids x = last(0, 0, 0);
        read(x, "glow 20 h=0|h=2");
        due("on(1, 10)", x.on(1, 10), ice("#"));
        due("on(2, 10)", x.on(2, 10), 0);
        due("on(3, 10)", x.on(3, 10), ice("#"));
        due("on(4, 10)", x.on(4, 10), 0);
        due("on(60, 10)", x.on(60, 10), ice("######"));
        FrostBids y = last(1, 9, 0);
        due("on(2, 10) of a KITCHEN", y.on(2, 10), ice("#"));
        due("on(3, 10) of a KITCHEN", y.on(3, 10), ice("##"));
    }

    // ---- promise 15

    @Edge(promise = 15, says = {"BEST: what 0 behind how many", "behind how many HOURS (0 .. n) its OFFER is greatest"})
    static void bestBehindSomeHours() {
        FrostBids x = one(0, 0, 0, "glow 15 h=3&c=1;fern 9;tower 1");
        due("best(0, 3, 0)", x.best(0, 3, 0), 3);
        due("best(0, 4, 0)", x.best(0, 4, 0), 4);
        due("best(0, 6, 0)", x.best(0, 6, 0), 4);
        due("best(0, 11, 0)", x.best(0, 11, 0), 4);
        due("best(0, 12, 0)", x.best(0, 12, 0), 12);
    }

    @Edge(promise = 15, says = {"1 how much.", "BEST of one in n HOURS (0 .. 20)"})
    static void howMuchIsBest() {
        FrostBids x = one(0, 0, 0, "glow 15 h=3&c=1;fern 9;tower 1");
        due("best(0, 3, 1)", x.best(0, 3, 1), 9 + 3);
        due("best(0, 4, 1)", x.best(0, 4, 1), 18 + 2);
        due("best(0, 6, 1)", x.best(0, 6, 1), 18 + 2);
        due("best(0, 12, 1)", x.best(0, 12, 1), 9 + 12);
    }

    @Edge(promise = 15, says = "behind how many HOURS (0 .. n) its OFFER is greatest")
    static void bestInNoHours() {
        FrostBids x = one(0, 0, 0);
        due("best(0, 0, 0)", x.best(0, 0, 0), 0);
        due("best(0, 0, 1)", x.best(0, 0, 1), 0);
        x.set(0, 1, ice("#.#"));
        due("best(0, 0, 1)", x.best(0, 0, 1), 8);
    }

    @Edge(promise = 15, says = "behind how many HOURS (0 .. n) its OFFER is greatest")
    static void bestNow() {
        FrostBids x = one(0, 0, 0, "fern 9;tower 1");
        x.set(0, 1, ice("#.#.#.#.#.#."));
        due("best(0, 20, 0)", x.best(0, 20, 0), 0);
        due("best(0, 20, 1)", x.best(0, 20, 1), 55);
    }

    @Edge(promise = 15, says = "behind how many HOURS (0 .. n) its OFFER is greatest")
    static void bestBehindOneHour() {
        FrostBids x = one(0, 0, 0, "glow 50 h>0");
        due("best(0, 1, 0)", x.best(0, 1, 0), 1);
        due("best(0, 9, 0)", x.best(0, 9, 0), 1);
        due("best(0, 9, 1)", x.best(0, 9, 1), 5);
    }

    @Edge(promise = 15, says = "BEST of one in n HOURS (0 .. 20)")
    static void bestBehindTheLastHour() {
        FrostBids x = one(0, 0, 4, SLOWLY);
        due("best(0, 19, 0)", x.best(0, 19, 0), 10);
        due("best(0, 20, 0)", x.best(0, 20, 0), 20);
        due("best(0, 20, 1)", x.best(0, 20, 1), 9);
    }

    @Edge(promise = 15, says = "its OFFER is greatest (of several the first)")
    static void firstOfSeveralBest() {
        FrostBids x = one(0, 0, 9);
        x.set(0, 1, ice("#"));
        due("best(0, 20, 0)", x.best(0, 20, 0), 0);
        FrostBids y = one(0, 0, 0, "glow 50 h=3|h=8");
        due("best(0, 10, 0)", y.best(0, 10, 0), 8);
        due("best(0, 7, 0)", y.best(0, 7, 0), 3);
        FrostBids z = one(0, 0, 0);
        due("best(0, 20, 0)", z.best(0, 20, 0), 12);
        due("best(0, 20, 1)", z.best(0, 20, 1), 27);
    }

    @Edge(promise = 15, says = "goes on from how all is")
    static void bestOfAShutOne() {
        FrostBids x = one(0, 0, 0);
        x.shut(0, true);
        x.set(0, 1, ice("##"));
        due("best(0, 20, 0)", x.best(0, 20, 0), 0);
        due("best(0, 20, 1)", x.best(0, 20, 1), 7);
    }

    @Edge(promise = 15, says = "(HOUR beyond 9999")
    static void bestBeyondTheLastHour() {
        FrostBids x = last(0, 0, 0);
        read(x, "glow 90 h=5");
        due("best(0, 6, 0)", x.best(0, 6, 0), 6);
        due("best(0, 9, 0)", x.best(0, 9, 0), 6);
        due("best(0, 9, 1)", x.best(0, 9, 1), 15);
    }

    @Edge(promise = 15, says = "NONE: pane,")
    static void bestOfNoPane() {
        FrostBids x = six();
        refusesPanes("best", pane -> x.best(pane, 0, 0), NONE);
    }

    @Edge(promise = 15, says = ", what;")
    static void bestOfNoWhat() {
        FrostBids x = six();
        refused("best, what", what -> x.best(0, 0, what), NONE, -1, 2, 3, Integer.MIN_VALUE, Integer.MAX_VALUE);
    }

    @Edge(promise = 15, says = "BAD: n.")
    static void bestInHoursBesideTheirEdges() {
        FrostBids x = six();
        refused("best, n", n -> x.best(0, n, 0), BAD, -1, 21, 60, Integer.MIN_VALUE, Integer.MAX_VALUE);
        refused("best, n", n -> x.best(0, n, 1), BAD, -1, 21);
    }

    @Edge(promise = 15, says = "NONE: pane, what; BAD: n.")
    static void firstOfSeveralRefusalsOfBest() {
        FrostBids x = six();
        due("best(6, 21, 0)", x.best(6, 21, 0), NONE);
        due("best(0, -1, 2)", x.best(0, -1, 2), NONE);
    }

    // ---- promise 16

    @Edge(promise = 16, says = {"HEAT: what 0 which WARM", "the WARM (0 .. 9) by which"})
    static void heatBetween() {
        FrostBids x = one(0, 0, 7, "glow 50 w<4;chill 1 w=9");
        due("heat(0, 3, 0)", x.heat(0, 3, 0), 4);
        due("heat(0, 3, 1)", x.heat(0, 3, 1), 9);
    }

    @Edge(promise = 16, says = {"the WARM (0 .. 9) by which", "greatest (of several the first); how much. HEAT"})
    static void leastHeat() {
        FrostBids x = one(0, 0, 7, "glow 50 w>0");
        due("heat(0, 3, 0)", x.heat(0, 3, 0), 0);
        due("heat(0, 3, 1)", x.heat(0, 3, 1), 9);
    }

    @Edge(promise = 16, says = "the WARM (0 .. 9) by which")
    static void greatestHeat() {
        FrostBids x = one(0, 0, 7, "glow 50 w<9;chill 10 w=9");
        due("heat(0, 3, 0)", x.heat(0, 3, 0), 9);
        due("heat(0, 3, 1)", x.heat(0, 3, 1), 9);
    }

    @Edge(promise = 16, says = "the WARM (0 .. 9) by which")
    static void noHeatAboveTheGreatest() {
        FrostBids x = one(0, 0, 7, "glow 50 w<10;chill 60 w>9");
        due("heat(0, 3, 0)", x.heat(0, 3, 0), 0);
        due("heat(0, 3, 1)", x.heat(0, 3, 1), 0);
    }

    @Edge(promise = 16, says = "its OFFER behind n is greatest (of several the first); how much. COMES")
    static void firstOfSeveralHeats() {
        FrostBids x = one(0, 0, 7);
        due("heat(0, 3, 0)", x.heat(0, 3, 0), 0);
        read(x, "glow 50 w<2");
        due("heat(0, 3, 0)", x.heat(0, 3, 0), 2);
        read(x, "glow 50 w=0;fern 0;tower 0");
        due("heat(0, 3, 0)", x.heat(0, 3, 0), 0);
        due("heat(0, 3, 1)", x.heat(0, 3, 1), 0);
    }

    @Edge(promise = 16, says = ", were it so warm from now on")
    static void heatFromNowOn() {
        FrostBids x = one(0, 0, 9);
        x.set(0, 1, ice("...#.#"));
        x.cold(0);
        read(x, "chill 4 c=4;glow 4 c=5;fern 9;tower 1");
        due("heat(0, 1, 0)", x.heat(0, 1, 0), 4);
        due("heat(0, 1, 1)", x.heat(0, 1, 1), 19);
        due("heat(0, 2, 1)", x.heat(0, 2, 1), 19);
    }

    @Edge(promise = 16, says = "HEAT of one and n HOURS (0 .. 20)")
    static void heatInNoHours() {
        FrostBids x = one(0, 0, 7);
        due("heat(0, 0, 0)", x.heat(0, 0, 0), 0);
        due("heat(0, 0, 1)", x.heat(0, 0, 1), 0);
        x.set(0, 1, ice("#.#"));
        due("heat(0, 0, 0)", x.heat(0, 0, 0), 0);
        due("heat(0, 0, 1)", x.heat(0, 0, 1), 8);
    }

    @Edge(promise = 16, says = "HEAT of one and n HOURS (0 .. 20)")
    static void heatInMostHours() {
        FrostBids x = one(0, 0, 7, "glow 9 !h=9&c>0");
        due("heat(0, 19, 1)", x.heat(0, 19, 1), 7);
        due("heat(0, 20, 1)", x.heat(0, 20, 1), 9);
        due("heat(0, 20, 0)", x.heat(0, 20, 0), 0);
    }

    @Edge(promise = 16, says = "1 how much.")
    static void howMuchByHeat() {
        FrostBids x = one(0, 0, 7);
        due("heat(0, 20, 1)", x.heat(0, 20, 1), 27);
        x.cold(0);
        due("heat(0, 20, 1)", x.heat(0, 20, 1), 0);
    }

    @Edge(promise = 16, says = "goes on from how all is")
    static void heatOfAShutOne() {
        FrostBids x = one(0, 0, 7);
        x.shut(0, true);
        x.set(0, 1, ice("##"));
        due("heat(0, 20, 0)", x.heat(0, 20, 0), 0);
        due("heat(0, 20, 1)", x.heat(0, 20, 1), 7);
    }

    @Edge(promise = 16, says = "(HOUR beyond 9999")
    static void heatBeyondTheLastHour() {
        FrostBids x = last(0, 0, 9);
        read(x, "glow 90 !w=2&!h=1;chill 20 w=5&h=1");
        due("heat(0, 2, 0)", x.heat(0, 2, 0), 2);
        due("heat(0, 3, 0)", x.heat(0, 3, 0), 2);
        read(x, "glow 90 !w=2&h=1;glow 90 w=2&h=0");
        due("heat(0, 2, 0)", x.heat(0, 2, 0), 0);
        due("heat(0, 3, 0)", x.heat(0, 3, 0), 2);
    }

    @Edge(promise = 16, says = "and changes nothing. ON")
    static void warmStaysByHeat() {
        FrostBids x = one(0, 0, 7);
        x.heat(0, 5, 0);
        due("of(0, 2)", x.of(0, 2), 7);
        due("of(0, 3)", x.of(0, 3), 0);
        due("on(5, 10)", x.on(5, 10), 0);
    }

    @Edge(promise = 16, says = "NONE: pane,")
    static void heatOfNoPane() {
        FrostBids x = six();
        refusesPanes("heat", pane -> x.heat(pane, 0, 0), NONE);
    }

    @Edge(promise = 16, says = ", what;")
    static void heatOfNoWhat() {
        FrostBids x = six();
        refused("heat, what", what -> x.heat(0, 0, what), NONE, -1, 2, 3, Integer.MIN_VALUE, Integer.MAX_VALUE);
    }

    @Edge(promise = 16, says = "BAD: n.")
    static void heatInHoursBesideTheirEdges() {
        FrostBids x = six();
        refused("heat, n", n -> x.heat(0, n, 0), BAD, -1, 21, 60, Integer.MIN_VALUE, Integer.MAX_VALUE);
        refused("heat, n", n -> x.heat(0, n, 1), BAD, -1, 21);
    }

    @Edge(promise = 16, says = "NONE: pane, what; BAD: n.")
    static void firstOfSeveralRefusalsOfHeat() {
        FrostBids x = six();
        due("heat(6, 21, 0)", x.heat(6, 21, 0), NONE);
        due("heat(0, -1, 2)", x.heat(0, -1, 2), NONE);
    }

    // ---- promise 17

    @Edge(promise = 17, says = {"COMES;",
        "COMES of one and ICE: the fewest HOURS (0 .. 60) behind which its ICE is just that"})
    static void comesNow() {
        FrostBids x = one(0, 0, 0);
        due("comes(0, 0)", x.comes(0, 0), 0);
        x.set(0, 1, ice("#.#"));
        due("comes(0, #.#)", x.comes(0, ice("#.#")), 0);
        due("comes(0, 0)", x.comes(0, 0), NOT_FOUND);
    }

    @Edge(promise = 17, says = "the fewest HOURS (0 .. 60) behind which its ICE is just that")
    static void comesIn() {
        FrostBids x = one(0, 0, 0);
        due("comes(0, #)", x.comes(0, ice("#")), 1);
        due("comes(0, ###)", x.comes(0, ice("###")), 3);
        due("comes(0, 4095)", x.comes(0, 4095), 12);
    }

    @Edge(promise = 17, says = "the fewest HOURS (0 .. 60) behind which its ICE is just that")
    static void comesInTheFewestHours() {
        FrostBids x = one(0, 0, 0, "glow 50 h=3|h=6");
        due("comes(0, ##)", x.comes(0, ice("##")), 2);
        due("comes(0, 0)", x.comes(0, 0), 0);
        x.pass(2);
        due("comes(0, #)", x.comes(0, ice("#")), 3);
    }

    @Edge(promise = 17, says = "behind which its ICE is just that")
    static void comesJustSo() {
        FrostBids x = one(0, 0, 0);
        due("comes(0, .#)", x.comes(0, ice(".#")), NOT_FOUND);
        due("comes(0, #.#)", x.comes(0, ice("#.#")), NOT_FOUND);
    }

    @Edge(promise = 17, says = "the fewest HOURS (0 .. 60)")
    static void comesInMostHours() {
        FrostBids x = one(0, 0, 4, SLOWLY);
        due("comes(0, seven)", x.comes(0, ice("#######")), 60);
    }

    @Edge(promise = 17, says = {"-5.", "(-5: not by then)"})
    static void comesNotByThen() {
        FrostBids x = one(0, 0, 4, SLOWLY);
        x.pass(9);
        x.set(0, 1, 0);
        due("comes(0, six)", x.comes(0, ice("######")), 51);
        due("comes(0, seven, in 61)", x.comes(0, ice("#######")), NOT_FOUND);
    }

    @Edge(promise = 17, says = "-5.")
    static void comesNotOnAShutOne() {
        FrostBids x = one(0, 0, 0);
        x.shut(0, true);
        due("comes(0, #)", x.comes(0, ice("#")), NOT_FOUND);
        due("comes(0, 0)", x.comes(0, 0), 0);
    }

    @Edge(promise = 17, says = "(HOUR beyond 9999")
    static void comesBeyondTheLastHour() {
        FrostBids x = last(0, 0, 4);
        read(x, SLOWLY);
        due("comes(0, #)", x.comes(0, ice("#")), 1);
        due("comes(0, ##)", x.comes(0, ice("##")), 11);
        due("comes(0, six)", x.comes(0, ice("######")), 51);
    }

    @Edge(promise = 17, says = "NONE;")
    static void comesOnNoPane() {
        FrostBids x = six();
        refusesPanes("comes", pane -> x.comes(pane, 0), NONE);
    }

    @Edge(promise = 17, says = "BAD: ice.")
    static void iceThatCantCome() {
        FrostBids x = six();
        refused("comes, ice", ice -> x.comes(0, ice), BAD, -1, 4096, Integer.MIN_VALUE, Integer.MAX_VALUE);
        due("comes(0, 4095)", x.comes(0, 4095), NOT_FOUND);
    }

    @Edge(promise = 17, says = "NONE; BAD: ice.")
    static void firstOfSeveralRefusalsOfComes() {
        due("comes(6, 4096)", six().comes(6, 4096), NONE);
        due("comes(-1, -1)", six().comes(-1, -1), NONE);
    }

    // ---- promise 18

    private static void breaths(FrostBids x, int n, int more, int... row) {
        due("breaths(" + n + ", -1)", x.breaths(n, -1), more);
        for (int k = 0; k < 3; k++) {
            due("breaths(" + n + ", " + k + ")", x.breaths(n, k), k < row.length ? row[k] : NOT_FOUND);
        }
    }

    /** Pane 0 grows a CELL each HOUR; pane 1, SHUT, has three for ever. */
    private static FrostBids two() {
        FrostBids x = one(0, 0, 0);
        x.pane(0, 0, 5);
        x.shut(1, true);
        x.set(1, 1, ice("###"));
        return x;
    }

    @Edge(promise = 18, says = {"BREATHS in n HOURS (1 .. 3)", "one of PANES, SHUT or not, or none is BREATHED on"})
    static void breathInOneHour() {
        breaths(two(), 1, 9, 1);
    }

    @Edge(promise = 18, says = {"else the k-th", "that by which PAID is most behind the last", "the k-th. SEEN"})
    static void breathsInTwoHours() {
        breaths(two(), 2, 14, 1, 0);
    }

    @Edge(promise = 18, says = {"BREATHS: k -1 how much more", "of all rows by which ahead of each HOUR",
        "how much more is PAID"})
    static void breathsInThreeHours() {
        breaths(two(), 3, 19, 1, 0, 0);
        FrostBids x = two();
        x.breathe(1);
        due("told(4)", x.told(4), 9);
        breaths(x, 3, 10, 0, 0, 0);
    }

    @Edge(promise = 18, says = "ahead of each HOUR")
    static void breathAheadOfTheHour() {
        FrostBids x = one(0, 0, 0);
        breaths(x, 1, 0, 0);
        x.set(0, 1, ice("#"));
        breaths(x, 1, 5, 0);
        breaths(x, 2, 10, 0, 0);
        read(x, "glow 99 h=0");
        breaths(x, 2, 5, 0, 0);
    }

    @Edge(promise = 18, says = {"(9: none;", "or none is BREATHED on"})
    static void noneIsBreathedOn() {
        FrostBids x = one(0, 0, 0, "glow 9 c=0");
        x.set(0, 1, ice("#"));
        breaths(x, 2, 7, 9, 0);
        breaths(x, 3, 9, 9, 9, 0);
    }

    @Edge(promise = 18, says = "(9: none;")
    static void noneOfTwoIsBreathedOn() {
        FrostBids x = one(0, 0, 0, "glow 9 c=0;fern 0;tower 10");
        x.pane(0, 0, 0);
        x.set(0, 1, ice("#"));
        x.set(1, 1, ice("#"));
        breaths(x, 3, 50, 9, 0, 1);
    }

    @Edge(promise = 18, says = "(9: none;")
    static void breathsWithoutPanes() {
        FrostBids x = new FrostBids();
        breaths(x, 1, 0, 9);
        breaths(x, 2, 0, 9, 9);
        breaths(x, 3, 0, 9, 9, 9);
    }

    @Edge(promise = 18, says = {"(of several the first as a row of numbers, none being 9 there)"})
    static void panesAheadOfNone() {
        FrostBids x = one(0, 0, 9);
        breaths(x, 1, 0, 0);
        breaths(x, 3, 0, 0, 0, 0);
        x.pane(0, 0, 9);
        x.set(1, 1, ice("#"));
        breaths(x, 3, 5, 0, 0, 1);
    }

    @Edge(promise = 18, says = {"(of several the first as a row of numbers, none being 9 there)"})
    static void firstOfSeveralRows() {
        FrostBids x = new FrostBids();
        for (int pane = 0; pane < 6; pane++) {
            x.pane(0, 0, 9);
            x.set(pane, 1, pane == 0 ? 0 : ice("##"));
        }
        breaths(x, 1, 7, 1);
        breaths(x, 2, 14, 1, 2);
        breaths(x, 3, 21, 1, 2, 3);
        x.set(5, 1, ice("###"));
        breaths(x, 1, 9, 5);
        breaths(x, 2, 16, 1, 5);
        breaths(x, 3, 23, 1, 2, 5);
        x.set(4, 1, ice("####"));
        breaths(x, 3, 27, 1, 4, 5);
    }

    @Edge(promise = 18, says = "that by which PAID is most behind the last")
    static void whoseTurnIsLater() {
        FrostBids x = new FrostBids();
        x.pane(0, 0, 0);
        x.pane(0, 0, 9);
        x.pane(0, 0, 9);
        x.set(0, 1, ice("##"));
        x.set(1, 1, ice("##"));
        x.set(2, 1, ice("#"));
        breaths(x, 2, 16, 1, 0);
        breaths(x, 3, 23, 1, 2, 0);
        read(x, "glow 60 p=1&h=0");
        breaths(x, 2, 16, 1, 0);
        x.pass(1);
        x.set(0, 1, 0);
        x.set(1, 1, ice("##"));
        read(x, "glow 60 p=1&h=2;glow 9 p=0");
        breaths(x, 3, 12, 0, 1, 2);
        read(x, "glow 60 p=1&h=1;glow 9 p=0");
        breaths(x, 3, 12, 1, 0, 2);
    }

    @Edge(promise = 18, says = "goes on from how all is (HOUR beyond 9999")
    static void breathsBeyondTheLastHour() {
        FrostBids x = last(0, 0, 0);
        x.set(0, 1, ice("#"));
        read(x, "glow 9 c=0;glow 60 h=0");
        breaths(x, 2, 7, 9, 0);
        breaths(x, 3, 7, 9, 0, 0);
    }

    @Edge(promise = 18, says = ", PAID not held, too)")
    static void breathsAreNotHeld() {
        FrostBids x = rich();
        x.set(0, 1, 4095);
        breaths(x, 1, 27, 0);
    }

    @Edge(promise = 18, says = "-5: there are fewer)")
    static void fewerBreaths() {
        FrostBids x = two();
        due("breaths(1, 1)", x.breaths(1, 1), NOT_FOUND);
        due("breaths(1, 2)", x.breaths(1, 2), NOT_FOUND);
        due("breaths(2, 2)", x.breaths(2, 2), NOT_FOUND);
        due("breaths(2, 1)", x.breaths(2, 1), 0);
        due("breaths(3, 2)", x.breaths(3, 2), 0);
    }

    @Edge(promise = 18, says = "NONE: k (-1 .. 2)")
    static void breathsOfNoK() {
        FrostBids x = two();
        refused("breaths, k", k -> x.breaths(3, k), NONE, -2, 3, 4, 9, Integer.MIN_VALUE, Integer.MAX_VALUE);
    }

    @Edge(promise = 18, says = "BAD: n.")
    static void breathsInHoursBesideTheirEdges() {
        FrostBids x = two();
        for (int i = -1; i <= 2; i++) {
            int k = i;
            refused("breaths, n", n -> x.breaths(n, k), BAD, -1, 0, 4, 5, Integer.MIN_VALUE, Integer.MAX_VALUE);
        }
    }

    @Edge(promise = 18, says = "NONE: k (-1 .. 2); BAD: n.")
    static void firstOfSeveralRefusalsOfBreaths() {
        due("breaths(4, 3)", two().breaths(4, 3), NONE);
        due("breaths(0, -2)", two().breaths(0, -2), NONE);
    }
}
