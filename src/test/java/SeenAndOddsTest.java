/** Promises 19 to 24: what was SEEN, by which COLD, WARM and v it is so, and how likely what is. */
public final class SeenAndOddsTest extends Edges {
    public static void main(String[] args) {
        run(SeenAndOddsTest.class);
    }

    // ---- promise 19

    @Edge(promise = 19, says = {"What is SEEN comes: how many there are", "; 5 at most. COLDS"})
    static void fiveAreSeen() {
        FrostBids x = six();
        for (int i = 1; i <= 5; i++) {
            due("see", x.see(i, i, i), i);
            due("count(2)", x.count(2), i);
        }
    }

    @Edge(promise = 19, says = "FULL: 5.")
    static void sixthIsSeen() {
        FrostBids x = one(0, 0, 0);
        for (int i = 0; i < 5; i++) {
            x.see(0, 1, ice("#"));
        }
        due("see", x.see(0, 1, 0), FULL);
        due("count(2)", x.count(2), 5);
        due("colds(0)", x.colds(0), 20);
    }

    @Edge(promise = 19, says = "one of PANES, its ICE behind n HOURS (0 .. 20) from now")
    static void leastAndGreatestThatIsSeen() {
        FrostBids x = six();
        due("see(0, 0, 0)", x.see(0, 0, 0), 1);
        due("see(5, 20, 4095)", x.see(5, 20, 4095), 2);
    }

    @Edge(promise = 19, says = "(pane -1: none then, 0")
    static void nothingIsSeenThen() {
        FrostBids x = one(0, 0, 0);
        x.see(0, 1, ice("##"));
        x.see(0, 1, ice("##"));
        due("colds(0)", x.colds(0), 0);
        due("see(-1, 0, 0)", x.see(-1, 0, 0), 0);
        due("count(2)", x.count(2), 0);
        due("colds(0)", x.colds(0), 21);
        due("see(0, 0, 0)", x.see(0, 0, 0), 1);
    }

    @Edge(promise = 19, says = ", whatever the others are)")
    static void nothingIsSeenThenWhateverTheOthersAre() {
        int[] numbers = {-1, 21, 4096, Integer.MIN_VALUE, Integer.MAX_VALUE};
        for (int n : numbers) {
            FrostBids x = six();
            x.see(0, 0, 0);
            due("see(-1, " + n + ", 0)", x.see(-1, n, 0), 0);
            due("count(2)", x.count(2), 0);
            x.see(0, 0, 0);
            due("see(-1, 0, " + n + ")", x.see(-1, 0, n), 0);
            due("count(2)", x.count(2), 0);
        }
    }

    @Edge(promise = 19, says = "(pane -1: none then, 0")
    static void nothingIsSeenThenWhenFullOrNew() {
        FrostBids x = one(0, 0, 0);
        for (int i = 0; i < 5; i++) {
            x.see(0, 0, 0);
        }
        due("see(-1, 0, 0)", x.see(-1, 0, 0), 0);
        due("see(0, 0, 0)", x.see(0, 0, 0), 1);
        due("see(-1, 0, 0) of a new object", new FrostBids().see(-1, 0, 0), 0);
    }

    @Edge(promise = 19, says = "NONE;")
    static void seenOnNoPane() {
        FrostBids x = six();
        refused("see, pane", pane -> x.see(pane, 0, 0), NONE, -2, 6, 7, Integer.MIN_VALUE, Integer.MAX_VALUE);
        due("count(2)", x.count(2), 0);
        due("see(0, 0, 0) of a new object", new FrostBids().see(0, 0, 0), NONE);
    }

    @Edge(promise = 19, says = "BAD: n,")
    static void seenInHoursBesideTheirEdges() {
        FrostBids x = six();
        refused("see, n", n -> x.see(0, n, 0), BAD, -1, 21, 60, Integer.MIN_VALUE, Integer.MAX_VALUE);
        due("count(2)", x.count(2), 0);
    }

    @Edge(promise = 19, says = ", ice;")
    static void seenIceBesideItsEdges() {
        FrostBids x = six();
        refused("see, ice", ice -> x.see(0, 0, ice), BAD, -1, 4096, Integer.MIN_VALUE, Integer.MAX_VALUE);
        due("count(2)", x.count(2), 0);
    }

    @Edge(promise = 19, says = "NONE; BAD: n, ice; FULL: 5.")
    static void firstOfSeveralRefusalsOfSee() {
        FrostBids x = six();
        due("see(6, 21, 0)", x.see(6, 21, 0), NONE);
        due("see(-2, 0, 4096)", x.see(-2, 0, 4096), NONE);
        for (int i = 0; i < 5; i++) {
            x.see(0, 0, 0);
        }
        due("see(6, 0, 0)", x.see(6, 0, 0), NONE);
        due("see(0, 21, 0)", x.see(0, 21, 0), BAD);
        due("see(0, 0, 4096)", x.see(0, 0, 4096), BAD);
        due("see(0, 0, 0)", x.see(0, 0, 0), FULL);
    }

    @Edge(promise = 19, says = "behind n HOURS (0 .. 20) from now")
    static void seenFromWhenItIsAsked() {
        FrostBids x = one(0, 0, 4);
        x.see(0, 3, ice("###"));
        due("colds(0)", x.colds(0), 16);
        x.pass(1);
        due("colds(0)", x.colds(0), 0);
        x.breathe(0);
        due("colds(0)", x.colds(0), 16);
    }

    // ---- promise 20

    private static void colds(FrostBids x, int many, int least) {
        due("colds(0)", x.colds(0), many);
        due("colds(1)", x.colds(1), least);
    }

    @Edge(promise = 20, says = {"COLDS: what 0 how many", "COLDS: how many numbers (0 .. 20) there are by which"})
    static void coldsOfNothingSeen() {
        colds(six(), 21, 0);
        colds(new FrostBids(), 21, 0);
    }

    @Edge(promise = 20, says = {"1 the least;", "were COLD that from now on, all of SEEN is so; the least"})
    static void leastOfSomeColds() {
        FrostBids x = one(0, 0, 4);
        x.see(0, 3, ice("###"));
        colds(x, 16, 5);
    }

    @Edge(promise = 20, says = "how many numbers (0 .. 20) there are by which")
    static void coldOfNothingAlone() {
        FrostBids x = one(0, 0, 0);
        x.see(0, 1, 0);
        colds(x, 1, 0);
    }

    @Edge(promise = 20, says = "how many numbers (0 .. 20) there are by which")
    static void greatestColdAlone() {
        FrostBids x = one(0, 0, 9, "glow 10 p=0");
        x.see(0, 1, ice("#"));
        colds(x, 1, 20);
    }

    @Edge(promise = 20, says = {"-5. NONE.", "the least (-5: none). WARMS"})
    static void noColdAboveTheGreatest() {
        FrostBids x = one(0, 0, 9, "glow 11 p=0");
        x.see(0, 1, ice("#"));
        colds(x, 0, NOT_FOUND);
    }

    @Edge(promise = 20, says = "the least (-5: none). WARMS")
    static void noColdsAtAll() {
        FrostBids x = one(0, 0, 0);
        x.see(0, 1, ice(".#"));
        colds(x, 0, NOT_FOUND);
    }

    @Edge(promise = 20, says = "all of SEEN is so; the least")
    static void coldsByAllThatIsSeen() {
        FrostBids x = one(0, 0, 4);
        x.pane(0, 0, 9);
        x.pane(0, 0, 6);
        x.see(0, 2, ice("##"));
        colds(x, 16, 5);
        x.see(1, 2, 0);
        colds(x, 5, 5);
        x.see(2, 1, ice("#"));
        colds(x, 3, 7);
        x.see(2, 2, ice("##"));
        x.see(0, 1, 0);
        colds(x, 0, NOT_FOUND);
    }

    @Edge(promise = 20, says = "all of SEEN is so; the least")
    static void coldsByTheLastThatIsSeen() {
        FrostBids x = one(0, 0, 4);
        for (int i = 0; i < 4; i++) {
            x.see(0, 0, 0);
        }
        x.see(0, 1, ice("#"));
        colds(x, 16, 5);
    }

    @Edge(promise = 20, says = "were COLD that from now on")
    static void coldsFromNowOn() {
        FrostBids x = one(0, 0, 0);
        x.set(0, 1, ice("#"));
        x.see(0, 0, ice("#"));
        colds(x, 21, 0);
        x.see(0, 0, 0);
        colds(x, 0, NOT_FOUND);
    }

    @Edge(promise = 20, says = "how many numbers (0 .. 20) there are by which")
    static void coldsWithAGap() {
        FrostBids x = one(0, 0, 0, "glow 10 c=1");
        x.set(0, 1, ice("##"));
        x.see(0, 2, ice("#"));
        colds(x, 1, 0);
        x.see(-1, 0, 0);
        x.see(0, 2, ice("##"));
        colds(x, 0, NOT_FOUND);
        x.see(-1, 0, 0);
        x.see(0, 1, ice("###"));
        colds(x, 20, 1);
    }

    @Edge(promise = 20, says = "goes on from how all is")
    static void coldsOfAShutOne() {
        FrostBids x = one(0, 0, 0);
        x.shut(0, true);
        x.see(0, 20, 0);
        colds(x, 21, 0);
        x.see(0, 1, ice("#"));
        colds(x, 0, NOT_FOUND);
    }

    @Edge(promise = 20, says = "(HOUR beyond 9999")
    static void coldsBeyondTheLastHour() {
        FrostBids x = last(0, 0, 9);
        read(x, "chill 9 h=0");
        x.see(0, 1, 0);
        x.see(0, 2, ice("#"));
        colds(x, 9, 1);
    }

    @Edge(promise = 20, says = "NONE.")
    static void coldsOfNoWhat() {
        FrostBids x = six();
        refused("colds", x::colds, NONE, -1, 2, 3, Integer.MIN_VALUE, Integer.MAX_VALUE);
    }

    @Edge(promise = 20, says = "and changes nothing. ON")
    static void coldStaysByColds() {
        FrostBids x = one(0, 0, 4);
        x.see(0, 3, ice("###"));
        x.colds(0);
        due("told(1)", x.told(1), 5);
        due("of(0, 3)", x.of(0, 3), 0);
        due("on(3, 10)", x.on(3, 10), ice("###"));
    }

    // ---- promise 21

    @Edge(promise = 21, says = {"WARMS (bits).", "WARMS of one: those numbers 0 .. 9, as bits"})
    static void warmsOfNothingSeen() {
        FrostBids x = six();
        for (int pane = 0; pane < 6; pane++) {
            due("warms(" + pane + ")", x.warms(pane), 1023);
        }
    }

    @Edge(promise = 21, says = "by which, were it so WARM, all of SEEN is so. FIRM")
    static void warmsBelow() {
        FrostBids x = one(0, 0, 9);
        x.see(0, 2, ice("##"));
        due("warms(0)", x.warms(0), 31);
    }

    @Edge(promise = 21, says = "those numbers 0 .. 9, as bits")
    static void leastAndGreatestWarm() {
        FrostBids x = one(0, 0, 5, "glow 20 !w=0&!w=9;chill 5 w=9");
        x.see(0, 1, ice("#"));
        due("warms(0)", x.warms(0), 1 + 512);
    }

    @Edge(promise = 21, says = "those numbers 0 .. 9, as bits")
    static void noWarmBesideTheEdges() {
        FrostBids x = one(0, 0, 5, "glow 20 w<10;chill 90 w>9");
        x.see(0, 1, ice("#"));
        due("warms(0)", x.warms(0), 0);
    }

    @Edge(promise = 21, says = "all of SEEN is so. FIRM")
    static void warmsByAllThatIsSeen() {
        FrostBids x = one(0, 0, 9);
        x.cold(6);
        x.see(0, 0, 0);
        x.see(0, 1, ice("#"));
        due("warms(0)", x.warms(0), 63);
        x.see(0, 2, ice("#"));
        due("warms(0)", x.warms(0), 0);
    }

    @Edge(promise = 21, says = {"WARMS of one", "were it so WARM"})
    static void warmsOfOneAlone() {
        FrostBids x = one(0, 0, 9);
        x.pane(0, 0, 4);
        x.see(0, 1, 0);
        due("warms(0)", x.warms(0), 1023 - 31);
        due("warms(1)", x.warms(1), 1023);
        x.see(1, 1, ice("#"));
        due("warms(0)", x.warms(0), 1023 - 31);
        due("warms(1)", x.warms(1), 31);
        x.set(1, 0, 5);
        due("warms(0)", x.warms(0), 0);
        due("warms(1)", x.warms(1), 31);
    }

    @Edge(promise = 21, says = "goes on from how all is")
    static void warmsOfAShutOne() {
        FrostBids x = one(0, 0, 0);
        x.shut(0, true);
        x.see(0, 20, 0);
        due("warms(0)", x.warms(0), 1023);
        x.see(0, 1, ice("#"));
        due("warms(0)", x.warms(0), 0);
    }

    @Edge(promise = 21, says = "(HOUR beyond 9999")
    static void warmsBeyondTheLastHour() {
        FrostBids x = last(0, 0, 0);
        read(x, "glow 20 h=9;chill 3 h=0");
        x.see(0, 1, 0);
        x.see(0, 2, ice("#"));
        due("warms(0)", x.warms(0), 255);
    }

    @Edge(promise = 21, says = "and changes nothing. ON")
    static void warmStaysByWarms() {
        FrostBids x = one(0, 0, 9);
        x.see(0, 2, ice("##"));
        x.warms(0);
        due("of(0, 2)", x.of(0, 2), 9);
        due("on(5, 10)", x.on(5, 10), 0);
    }

    @Edge(promise = 21, says = "NONE.")
    static void warmsOfNoPane() {
        FrostBids x = six();
        refusesPanes("warms", x::warms, NONE);
        due("warms(0) of a new object", new FrostBids().warms(0), NONE);
    }

    // ---- promise 22

    private static void firm(FrostBids x, int pane, int many, int least) {
        due("firm(" + pane + ", 0)", x.firm(pane, 0), many);
        due("firm(" + pane + ", 1)", x.firm(pane, 1), least);
    }

    @Edge(promise = 22, says = {"FIRM: what 0 how many", "FIRM of one: how many numbers v (0 .. 9) likewise"})
    static void firmByNothingSeen() {
        FrostBids x = six();
        for (int pane = 0; pane < 6; pane++) {
            firm(x, pane, 10, 0);
        }
    }

    @Edge(promise = 22, says = {"1 the least;", "likewise; the least"})
    static void firmnessOfAKitchen() {
        FrostBids x = one(1, 2, 0);
        x.see(0, 1, 0);
        firm(x, 0, 5, 5);
        x.see(-1, 0, 0);
        x.see(0, 1, ice("#"));
        firm(x, 0, 5, 0);
    }

    @Edge(promise = 22, says = "FIRM of one: how many numbers v (0 .. 9) likewise")
    static void firmnessOfAChurch() {
        FrostBids x = one(5, 9, 9);
        x.see(0, 3, ice("###"));
        firm(x, 0, 7, 3);
        x.see(0, 3, ice("##"));
        firm(x, 0, 0, NOT_FOUND);
    }

    @Edge(promise = 22, says = "how many numbers v (0 .. 9) likewise")
    static void leastFirmnessAlone() {
        FrostBids x = one(5, 9, 5);
        x.see(0, 1, 0);
        firm(x, 0, 1, 0);
    }

    @Edge(promise = 22, says = "how many numbers v (0 .. 9) likewise")
    static void greatestFirmnessAlone() {
        FrostBids x = one(5, 0, 5, "glow 16 p=0");
        x.see(0, 1, ice("#"));
        firm(x, 0, 1, 9);
    }

    @Edge(promise = 22, says = {"-5. NONE.", "the least (-5: none). ODDS"})
    static void noFirmnessAboveTheGreatest() {
        FrostBids x = one(5, 0, 5, "glow 18 p=0");
        x.see(0, 1, ice("#"));
        firm(x, 0, 0, NOT_FOUND);
    }

    @Edge(promise = 22, says = "FIRM of one")
    static void firmnessOfOneAlone() {
        FrostBids x = one(1, 6, 0);
        x.pane(5, 4, 9);
        x.see(0, 1, 0);
        x.see(1, 1, ice("#"));
        firm(x, 0, 5, 5);
        firm(x, 1, 7, 3);
        FrostBids y = one(1, 4, 0);
        y.pane(5, 4, 9);
        y.see(0, 1, 0);
        y.see(1, 1, ice("#"));
        firm(y, 0, 5, 5);
        firm(y, 1, 0, NOT_FOUND);
    }

    @Edge(promise = 22, says = "likewise; the least")
    static void firmnessByTheWarmThatIs() {
        FrostBids x = one(1, 2, 4);
        x.see(0, 1, ice("#"));
        firm(x, 0, 1, 0);
        x.set(0, 0, 3);
        firm(x, 0, 2, 0);
        x.cold(9);
        firm(x, 0, 6, 0);
    }

    @Edge(promise = 22, says = "FIRM of one")
    static void firmnessOfOthersIsAlike() {
        for (int kind : new int[] {0, 2, 3, 6}) {
            FrostBids x = one(kind, 2, 1);
            x.see(0, 1, kind == 6 ? 0 : ice("#"));
            firm(x, 0, 10, 0);
        }
    }

    @Edge(promise = 22, says = "goes on from how all is")
    static void firmnessOfAShutOne() {
        FrostBids x = one(5, 0, 0);
        x.shut(0, true);
        x.see(0, 20, 0);
        firm(x, 0, 10, 0);
        x.see(0, 1, ice("#"));
        firm(x, 0, 0, NOT_FOUND);
    }

    @Edge(promise = 22, says = "(HOUR beyond 9999")
    static void firmnessBeyondTheLastHour() {
        FrostBids x = last(1, 9, 0);
        read(x, "glow 20 h=9");
        x.see(0, 2, ice("#"));
        firm(x, 0, 5, 0);
    }

    @Edge(promise = 22, says = "and changes nothing. ON")
    static void vStaysByFirm() {
        FrostBids x = one(5, 2, 9);
        x.see(0, 3, ice("###"));
        x.firm(0, 0);
        due("of(0, 1)", x.of(0, 1), 2);
        due("grows(0, 0)", x.grows(0, 0), 0);
        due("on(3, 10)", x.on(3, 10), 0);
    }

    @Edge(promise = 22, says = "NONE.")
    static void firmOfNoPane() {
        FrostBids x = six();
        refusesPanes("firm", pane -> x.firm(pane, 0), NONE);
    }

    @Edge(promise = 22, says = "NONE.")
    static void firmOfNoWhat() {
        FrostBids x = six();
        refused("firm, what", what -> x.firm(0, what), NONE, -1, 2, 3, Integer.MIN_VALUE, Integer.MAX_VALUE);
    }

    // ---- promise 23

    private static void odds(FrostBids x, int n, int q, int above, int below) {
        due("odds(0, " + n + ", " + q + ", 0)", x.odds(0, n, q, 0), above);
        due("odds(0, " + n + ", " + q + ", 1)", x.odds(0, n, q, 1), below);
    }

    @Edge(promise = 23, says = {"ODDS.", "how likely its OFFER is q or more behind n",
        "part 0 above, 1 below the line"})
    static void oddsOfSomeColds() {
        odds(one(0, 0, 4), 20, 27, 16, 21);
    }

    @Edge(promise = 23, says = "how likely its OFFER is q or more behind n")
    static void oddsOfJustSoMuch() {
        FrostBids x = one(0, 0, 4);
        odds(x, 3, 8, 16, 21);
        odds(x, 3, 9, 16, 21);
        odds(x, 3, 10, 0, 1);
    }

    @Edge(promise = 23, says = "how likely its OFFER is q or more behind n: a fraction in lowest terms. MEAN")
    static void oddsInLowestTerms() {
        int[] above = {20, 19, 6, 17, 16, 5, 2, 13, 4, 11};
        int[] below = {21, 21, 7, 21, 21, 7, 3, 21, 7, 21};
        for (int warm = 0; warm <= 9; warm++) {
            odds(one(0, 0, warm), 1, 5, above[warm], below[warm]);
        }
    }

    @Edge(promise = 23, says = "if COLD is any of 0 .. 20 from now on, each alike likely")
    static void oddsOfTheGreatestCold() {
        odds(one(0, 0, 9, "glow 10 p=0"), 1, 5, 1, 21);
        odds(one(0, 0, 9, "glow 11 p=0"), 1, 5, 0, 1);
    }

    @Edge(promise = 23, says = "if COLD is any of 0 .. 20 from now on, each alike likely")
    static void oddsOfNoColdToo() {
        odds(one(0, 0, 0, "chill 1 p=0"), 1, 5, 1, 1);
        odds(one(0, 0, 0), 1, 5, 20, 21);
    }

    @Edge(promise = 23, says = "from now on, each alike likely")
    static void oddsWhateverTheColdIs() {
        FrostBids x = one(0, 0, 4);
        for (int cold = 0; cold <= 20; cold += 10) {
            x.cold(cold);
            odds(x, 1, 5, 16, 21);
            due("told(1)", x.told(1), cold);
        }
    }

    @Edge(promise = 23, says = "ODDS of one, n HOURS (0 .. 60)")
    static void oddsInNoHours() {
        FrostBids x = one(0, 0, 4);
        x.set(0, 1, ice("#"));
        odds(x, 0, 5, 1, 1);
        odds(x, 0, 6, 0, 1);
    }

    @Edge(promise = 23, says = "ODDS of one, n HOURS (0 .. 60)")
    static void oddsInMostHours() {
        FrostBids x = one(0, 0, 4, "glow 40 !h=9");
        odds(x, 59, 5, 0, 1);
        odds(x, 60, 5, 16, 21);
    }

    @Edge(promise = 23, says = "and q (0 .. 999)")
    static void oddsOfLeastAndMostWanted() {
        FrostBids x = one(0, 0, 4, "fern 99;tower 99");
        odds(x, 1, 0, 1, 1);
        odds(x, 8, 999, 0, 1);
        odds(x, 11, 999, 16, 21);
        due("odds(0, 12, 999, 0)", x.odds(0, 12, 999, 0), 16);
        FrostBids y = one(0, 0, 4, "fern 9;tower 90");
        odds(y, 11, 999, 16, 21);
        odds(y, 10, 909, 16, 21);
        odds(y, 10, 910, 0, 1);
    }

    @Edge(promise = 23, says = "(HOUR beyond 9999")
    static void oddsBeyondTheLastHour() {
        FrostBids x = last(0, 0, 4);
        read(x, "glow 30 h=9");
        odds(x, 1, 5, 0, 1);
        odds(x, 2, 5, 16, 21);
        odds(x, 10, 21, 16, 21);
        odds(x, 11, 5, 0, 1);
    }

    @Edge(promise = 23, says = "goes on from how all is")
    static void oddsOfAShutOne() {
        FrostBids x = one(0, 0, 4);
        x.shut(0, true);
        odds(x, 60, 1, 0, 1);
        odds(x, 60, 0, 1, 1);
    }

    @Edge(promise = 23, says = "NO: pane,")
    static void oddsOfNoPane() {
        FrostBids x = six();
        refusesPanes("odds", pane -> x.odds(pane, 0, 0, 0), NO);
        refusesPanes("odds", pane -> x.odds(pane, 0, 0, 1), NO);
    }

    @Edge(promise = 23, says = ", n,")
    static void oddsInHoursBesideTheirEdges() {
        FrostBids x = six();
        refused("odds, n", n -> x.odds(0, n, 0, 0), NO, -1, 61, Integer.MIN_VALUE, Integer.MAX_VALUE);
        refused("odds, n", n -> x.odds(0, n, 0, 1), NO, -1, 61, Integer.MIN_VALUE, Integer.MAX_VALUE);
    }

    @Edge(promise = 23, says = ", q,")
    static void oddsOfWhatIsBesideItsEdges() {
        FrostBids x = six();
        refused("odds, q", q -> x.odds(0, 0, q, 0), NO, -1, 1000, Integer.MIN_VALUE, Integer.MAX_VALUE);
        refused("odds, q", q -> x.odds(0, 0, q, 1), NO, -1, 1000, Integer.MIN_VALUE, Integer.MAX_VALUE);
    }

    @Edge(promise = 23, says = {", part.", "The constants: `NO = Long.MIN_VALUE`: There is no such number."})
    static void oddsOfNoPart() {
        FrostBids x = six();
        refused("odds, part", part -> x.odds(0, 0, 0, part), NO, -1, 2, 3, Integer.MIN_VALUE, Integer.MAX_VALUE);
        due("NO", FrostBids.NO, Long.MIN_VALUE);
    }

    // ---- promise 24

    /** OFFERS of panes with that ICE, together, by how many they are. */
    private static void mean(long above, long below, String... panes) {
        FrostBids x = new FrostBids();
        for (int i = 0; i < panes.length; i++) {
            x.pane(i, 1, 1);
            x.set(i, 1, ice(panes[i]));
        }
        due("mean(0) of " + panes.length, x.mean(0), above);
        due("mean(1) of " + panes.length, x.mean(1), below);
    }

    @Edge(promise = 24, says = {"MEAN.", "MEAN: OFFERS of all, together, by how many they are"})
    static void meanOfSome() {
        mean(27, 1, "############");
        mean(5, 2, "#", "");
        mean(19, 3, "#", "##", "##");
        mean(19, 4, "#", "##", "", "##");
        mean(19, 5, "#", "##", "", "##", "");
        mean(19, 6, "#", "", "##", "", "##", "");
    }

    @Edge(promise = 24, says = ": a fraction in lowest terms (NO")
    static void meanInLowestTerms() {
        mean(6, 1, "#", "##");
        mean(14, 3, "####", "#", "", "##", "", "#");
        mean(5, 2, "#", "#", "#", "", "", "");
        mean(9, 2, "###", "###", "", "");
        mean(5, 1, "#", "#", "#", "#", "#", "#");
    }

    @Edge(promise = 24, says = ": a fraction in lowest terms (NO")
    static void meanOfNothing() {
        mean(0, 1, "");
        mean(0, 1, "", "", "", "", "", "");
    }

    @Edge(promise = 24, says = "together, by how many they are")
    static void meanCountsShutOnes() {
        FrostBids x = one(0, 0, 0);
        x.pane(0, 0, 0);
        x.set(1, 1, ice("#"));
        x.shut(1, true);
        due("mean(0)", x.mean(0), 5);
        due("mean(1)", x.mean(1), 2);
    }

    @Edge(promise = 24, says = "NO: part,")
    static void meanOfNoPart() {
        FrostBids x = six();
        refused("mean", x::mean, NO, -1, 2, 3, Integer.MIN_VALUE, Integer.MAX_VALUE);
    }

    @Edge(promise = 24, says = {", there are none.", "(NO: there are none)"})
    static void meanOfNone() {
        FrostBids x = new FrostBids();
        due("mean(0)", x.mean(0), NO);
        due("mean(1)", x.mean(1), NO);
        due("mean(2)", x.mean(2), NO);
    }
}
