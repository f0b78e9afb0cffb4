import java.util.function.Supplier;

/** Promises 6 and 13: BITE and GROWS, where an E holds, and what happens when HOURS go. */
public final class GrowthTest extends Edges {
    /** What values are held against: all that there are, what is beside, and what may wrap. */
    private static final int[] NUMBERS = {0, 1, 2, 3, 4, 5, 6, 7, 8, 9, 10, 11, 12, 13, 31, 32, 33, 64, 98, 99};

    public static void main(String[] args) {
        run(GrowthTest.class);
    }

    // ---- promise 6: BITE

    @Edge(promise = 6, says = {"GROWS of one at a CELL this HOUR", "BITE of one at a CELL: COLD"})
    static void biteOfTheCold() {
        FrostBids x = one(0, 9, 0);
        due("grows(0, 0)", x.grows(0, 0), 5);
        x.cold(0);
        due("grows(0, 0)", x.grows(0, 0), 0);
        x.cold(20);
        due("grows(0, 11)", x.grows(0, 11), 20);
    }

    @Edge(promise = 6, says = {", less its WARM", "(may be below 0). GROWS"})
    static void biteOfTheWarm() {
        FrostBids x = one(0, 9, 9);
        due("grows(0, 0)", x.grows(0, 0), -4);
        x.cold(0);
        due("grows(0, 0)", x.grows(0, 0), -9);
        x.set(0, 0, 2);
        due("grows(0, 0)", x.grows(0, 0), -2);
    }

    @Edge(promise = 6, says = "and the n of all chill whose E holds")
    static void biteOfAllThatChills() {
        FrostBids x = one(0, 0, 0, "chill 10 c>0;fern 9;chill 99 c=2;chill 0 c=3;chill 7 c=4&c=5");
        due("grows(0, 0)", x.grows(0, 0), 5);
        due("grows(0, 1)", x.grows(0, 1), 15);
        due("grows(0, 2)", x.grows(0, 2), 114);
        due("grows(0, 3)", x.grows(0, 3), 15);
        due("grows(0, 4)", x.grows(0, 4), 15);
    }

    @Edge(promise = 6, says = ", less those of all glow, together")
    static void biteOfAllThatGlows() {
        FrostBids x = one(0, 0, 0, "glow 99 c<2;glow 98 c=1;tower 9;chill 3 c<3;glow 1 c=2");
        due("grows(0, 0)", x.grows(0, 0), 5 - 99 + 3);
        due("grows(0, 1)", x.grows(0, 1), 5 - 197 + 3);
        due("grows(0, 2)", x.grows(0, 2), 5 + 2);
        due("grows(0, 3)", x.grows(0, 3), 5);
    }

    // ---- promise 6: where an E holds

    /**
     * An object in which each letter has a value of its own: pane p = 3 is a KITCHEN, k = 1, of
     * w = 6, h is 8, and n is 0 at cell 9, 1 at cell 2 and 2 at cell 4.
     */
    private static FrostBids mixed() {
        FrostBids x = new FrostBids();
        for (int i = 0; i < 3; i++) {
            x.pane(0, 0, 0);
        }
        x.pane(1, 2, 6);
        x.pass(38);
        x.set(3, 1, ice("...###.#...."));
        return x;
    }

    /** An E holds there, or doesn't: what chills by it makes one GROW otherwise, or doesn't. */
    private static void holds(FrostBids x, String e, int pane, int cell, boolean is) {
        int ahead = x.grows(pane, cell);
        due("town of " + e, read(x, "chill 40 " + e), 0);
        due(e + " holds on " + pane + " at " + cell, x.grows(pane, cell) > ahead ? 1 : 0, is ? 1 : 0);
    }

    private static void holds(String e, int cell, boolean is) {
        holds(mixed(), e, 3, cell, is);
    }

    /** A letter has just that value there: it is below, like and above all numbers as the value is. */
    private static void value(Supplier<FrostBids> made, char letter, int pane, int cell, int value) {
        for (int n : NUMBERS) {
            holds(made.get(), letter + "<" + n, pane, cell, value < n);
            holds(made.get(), letter + "=" + n, pane, cell, value == n);
            holds(made.get(), letter + ">" + n, pane, cell, value > n);
        }
    }

    /** A pane with that ICE. */
    private static FrostBids frozen(String cells) {
        FrostBids x = one(0, 8, 9);
        x.set(0, 1, ice(cells));
        return x;
    }

    @Edge(promise = 6, says = ": of one of PANES and a CELL p its number")
    static void letterP() {
        for (int pane = 0; pane < 6; pane++) {
            value(Edges::six, 'p', pane, 6 - pane, pane);
        }
    }

    @Edge(promise = 6, says = "k its KIND")
    static void letterK() {
        for (int i = 0; i <= 6; i++) {
            int kind = i;
            value(() -> one(kind, 8, 9), 'k', 0, 4, kind);
        }
    }

    @Edge(promise = 6, says = "c the CELL")
    static void letterC() {
        for (int cell = 0; cell < 12; cell++) {
            value(() -> one(0, 8, 9), 'c', 0, cell, cell);
        }
    }

    @Edge(promise = 6, says = "n how many CELLS beside that are frozen (0 .. 2)")
    static void letterN() {
        int[] frozenBeside = {1, 1, 1, 1, 1, 0, 2, 0, 1, 0, 1, 0};
        for (int cell = 0; cell < 12; cell++) {
            value(() -> frozen(".##..#.#...#"), 'n', 0, cell, frozenBeside[cell]);
        }
    }

    @Edge(promise = 6, says = {"n how many CELLS beside that are frozen (0 .. 2)", "which lie in a row"})
    static void letterNAtBothEnds() {
        for (int cell = 0; cell <= 11; cell += 11) {
            value(() -> frozen("#..........#"), 'n', 0, cell, 0);
            value(() -> frozen(".#........#."), 'n', 0, cell, 1);
            value(() -> frozen("############"), 'n', 0, cell, 1);
        }
    }

    @Edge(promise = 6, says = "w its WARM")
    static void letterW() {
        for (int i = 0; i <= 9; i++) {
            int warm = i;
            value(() -> one(0, 8, warm), 'w', 0, 3, warm);
        }
        FrostBids x = one(0, 8, 3);
        x.set(0, 0, 7);
        holds(x, "w=7", 0, 0, true);
    }

    /** A pane, so many HOURS on. */
    private static FrostBids at(int hour) {
        FrostBids x = one(0, 8, 9);
        x.pass(hour);
        return x;
    }

    @Edge(promise = 6, says = "h HOUR modulo 10")
    static void letterH() {
        for (int hour : new int[] {0, 1, 9, 10, 19, 30, 57}) {
            value(() -> at(hour), 'h', 0, 3, hour % 10);
        }
    }

    @Edge(promise = 6, says = "h HOUR modulo 10")
    static void letterHAtTheLastHour() {
        holds(last(0, 0, 9), "h=9", 0, 0, true);
        holds(last(0, 0, 9), "h>9", 0, 0, false);
    }

    @Edge(promise = 6, says = {", one of < = >", "p or k or c or n or w or h"})
    static void lettersOfOneCell() {
        holds("p=3&k=1&c=2&n=1&w=6&h=8", 2, true);
        holds("p=3&k=1&c=9&n=0&w=6&h=8", 9, true);
        holds("p=3&k=1&c=4&n=2&w=6&h=8", 4, true);
        holds("p=1|k=3|c=8|n=6|w=8|h=1", 4, false);
    }

    @Edge(promise = 6, says = "E: T, or T|E")
    static void oneOfTwoTerms() {
        holds("p=3|k=1", 0, true);
        holds("p=3|k=0", 0, true);
        holds("p=0|k=1", 0, true);
        holds("p=0|k=0", 0, false);
        holds("p=0|k=0|w=0|h=8", 0, true);
    }

    @Edge(promise = 6, says = "T: F, or F&T")
    static void bothOfTwoTerms() {
        holds("p=3&k=1", 0, true);
        holds("p=3&k=0", 0, false);
        holds("p=0&k=1", 0, false);
        holds("p=0&k=0", 0, false);
        holds("p=3&k=1&w=6&h=0", 0, false);
    }

    @Edge(promise = 6, says = {"E: T, or T|E", "T: F, or F&T"})
    static void bothBindMoreThanOneOf() {
        holds("p=3|k=0&w=0", 0, true);
        holds("p=0&k=0|w=6", 0, true);
        holds("p=0|k=1&w=0", 0, false);
        holds("p=0|k=1&w=6", 0, true);
        holds("p=0&k=1|w=0", 0, false);
    }

    @Edge(promise = 6, says = "F: !F, (E), or a TEST")
    static void notOfAnF() {
        holds("!p=3", 0, false);
        holds("!p=0", 0, true);
        holds("!!p=3", 0, true);
        holds("!!!!!p=3", 0, false);
        holds("!p=0&k=0", 0, false);
        holds("!p=3|k=1", 0, true);
        holds("!p=3&p=0|k=1", 0, true);
    }

    @Edge(promise = 6, says = "F: !F, (E), or a TEST")
    static void bracketsOfAnE() {
        holds("(p=3|k=0)&w=0", 0, false);
        holds("(p=3|k=0)&w=6", 0, true);
        holds("!(p=3|k=0)", 0, false);
        holds("!(p=3&k=0)", 0, true);
        holds("(p=0&(k=1|w=6))", 0, false);
        holds("!(!(p=3)&k=1)", 0, true);
    }

    @Edge(promise = 6, says = "At most 5 of ! and ( are open")
    static void deepestE() {
        String deep = "p=3&(p=0|p=3&(p=0|p=3&(p=0|p=3&(p=0|p=3&(p=0|p=3&c=4)))))";
        holds(deep, 4, true);
        holds(deep, 5, false);
        holds("!(!(!c=4))", 4, false);
        holds("!(!(!c=4))", 5, true);
    }

    // ---- promise 6: GROWS of each KIND

    @Edge(promise = 6, says = "GROWS of these (may be below 0): PANE: BITE.")
    static void growthOfAPane() {
        FrostBids x = one(0, 9, 8);
        x.set(0, 1, 4095);
        for (int cell = 0; cell < 12; cell++) {
            due("grows(0, " + cell + ")", x.grows(0, cell), -3);
        }
    }

    @Edge(promise = 6, says = "KITCHEN: BITE; v less, if HOUR is a multiple of 4.")
    static void growthOfAKitchen() {
        FrostBids x = one(1, 7, 3);
        int[] want = {-5, 2, 2, 2, -5, 2, 2, 2, -5};
        for (int hour = 0; hour < want.length; hour++) {
            due("grows(0, 2) at HOUR " + hour, x.grows(0, 2), want[hour]);
            x.pass(1);
        }
    }

    @Edge(promise = 6, says = "NURSERY: the half (cut toward 0) of BITE.")
    static void growthOfANursery() {
        int[] want = {-4, -4, -3, -3, -2, -2, -1, -1, 0, 0, 0, 1, 1, 2, 2, 3, 3, 4, 4, 5, 5};
        FrostBids x = one(2, 9, 9);
        for (int cold = 0; cold <= 20; cold++) {
            x.cold(cold);
            due("grows(0, 2) by COLD " + cold, x.grows(0, 2), want[cold]);
        }
    }

    @Edge(promise = 6, says = "RECTORY: BITE, and twice how many CELLS beside are frozen.")
    static void growthOfARectory() {
        FrostBids x = one(3, 9, 6);
        x.set(0, 1, ice(".##..#.#...#"));
        int[] frozenBeside = {1, 1, 1, 1, 1, 0, 2, 0, 1, 0, 1, 0};
        for (int cell = 0; cell < 12; cell++) {
            due("grows(0, " + cell + ")", x.grows(0, cell), -1 + 2 * frozenBeside[cell]);
        }
        x.set(0, 1, ice("#..........#"));
        due("grows(0, 0)", x.grows(0, 0), -1);
        due("grows(0, 11)", x.grows(0, 11), -1);
    }

    @Edge(promise = 6, says = "JAIL: as KITCHEN")
    static void growthOfAJail() {
        FrostBids x = one(4, 7, 3);
        due("grows(0, 0)", x.grows(0, 0), -5);
        due("grows(0, 10)", x.grows(0, 10), -5);
        x.pass(1);
        due("grows(0, 1)", x.grows(0, 1), 2);
        due("grows(0, 9)", x.grows(0, 9), 2);
    }

    @Edge(promise = 6, says = "; 0, if CELL modulo 3 is 2.")
    static void growthBetweenAJailsBars() {
        FrostBids x = one(4, 7, 3);
        FrostBids y = one(4, 0, 0, "chill 50 c>4;glow 50 c<5");
        for (int cell = 2; cell < 12; cell += 3) {
            due("grows(0, " + cell + ")", x.grows(0, cell), 0);
            due("grows(0, " + cell + ")", y.grows(0, cell), 0);
        }
        due("grows(0, 1)", y.grows(0, 1), -45);
        due("grows(0, 6)", y.grows(0, 6), 55);
    }

    @Edge(promise = 6, says = "CHURCH: as NURSERY, and v.")
    static void growthOfAChurch() {
        int[] want = {0, 0, 1, 1, 2, 2, 3, 3, 4, 4, 4, 5, 5, 6, 6, 7, 7, 8, 8, 9, 9};
        FrostBids x = one(5, 4, 9);
        for (int cold = 0; cold <= 20; cold++) {
            x.cold(cold);
            due("grows(0, 2) by COLD " + cold, x.grows(0, 2), want[cold]);
        }
    }

    @Edge(promise = 6, says = "TOLD: as RECTORY, and its ROW at CELL modulo 4, less 4.")
    static void growthOfAToldOne() {
        FrostBids x = one(6, 9, 6);
        x.set(0, 1, ice(".##..#.#...#"));
        x.row(0, 1, 9);
        x.row(0, 2, 4);
        x.row(0, 3, 1);
        int[] frozenBeside = {1, 1, 1, 1, 1, 0, 2, 0, 1, 0, 1, 0};
        int[] row = {0, 9, 4, 1};
        for (int cell = 0; cell < 12; cell++) {
            int want = -1 + 2 * frozenBeside[cell] + row[cell % 4] - 4;
            due("grows(0, " + cell + ")", x.grows(0, cell), want);
        }
    }

    @Edge(promise = 6, says = "(SHUT or not)")
    static void growthOfShutOnes() {
        FrostBids x = six();
        x.set(2, 1, ice("#.#"));
        int[] want = new int[6];
        for (int pane = 0; pane < 6; pane++) {
            want[pane] = x.grows(pane, 1);
            x.shut(pane, true);
        }
        for (int pane = 0; pane < 6; pane++) {
            due("grows(" + pane + ", 1)", x.grows(pane, 1), want[pane]);
        }
        due("grows(2, 1)", x.grows(2, 1), 5 - 7 + 4);
    }

    @Edge(promise = 6, says = "this HOUR")
    static void growthOfThisHour() {
        FrostBids x = one(0, 0, 0, "chill 7 h=1;glow 7 h=2");
        int[] want = {5, 12, -2, 5};
        for (int hour = 0; hour < want.length; hour++) {
            due("grows(0, 0) at HOUR " + hour, x.grows(0, 0), want[hour]);
            x.pass(1);
        }
    }

    @Edge(promise = 6, says = {"-999999: NONE.", "Where an answer may be below 0, -999999 tells NONE."})
    static void growthOfNoPane() {
        FrostBids x = six();
        refusesPanes("grows", pane -> x.grows(pane, 0), NO_GROWTH);
        due("grows(0, 0) of a new object", new FrostBids().grows(0, 0), NO_GROWTH);
    }

    @Edge(promise = 6, says = "-999999: NONE.")
    static void growthAtNoCell() {
        FrostBids x = six();
        refused("grows, cell", cell -> x.grows(0, cell), NO_GROWTH, -1, 12, 13, Integer.MIN_VALUE, Integer.MAX_VALUE);
        due("grows(0, 11)", x.grows(0, 11), -4);
    }

    // ---- promise 13

    /** The ICE of pane 0 becomes what is told of the second when an HOUR goes. */
    private static void hour(FrostBids x, String ahead, String behind) {
        x.set(0, 1, ice(ahead));
        x.pass(1);
        due("ICE behind " + ahead, x.of(0, 3), ice(behind));
    }

    @Edge(promise = 13, says = "a CELL that is frozen is so no more, if it GROWS by -10 or less")
    static void meltsByTenBelow() {
        hour(one(0, 0, 5, "glow 9 c<9;glow 10 c>8;glow 1 c=3"), "############", "###.#####...");
    }

    @Edge(promise = 13, says = "a CELL that is frozen is so no more, if it GROWS by -10 or less")
    static void staysByNineBelow() {
        FrostBids x = one(0, 0, 9);
        x.cold(0);
        hour(x, "#.##.#.#...#", "#.##.#.#...#");
        read(x, "glow 1 c<3;glow 99 c=11");
        hour(x, "#.##.#.#...#", "...#.#.#....");
    }

    @Edge(promise = 13, says = "one that is not is frozen then, if it GROWS by more than 0")
    static void freezesByOne() {
        hour(one(0, 0, 4), "...#...#...#", "#.###.###.##");
    }

    @Edge(promise = 13, says = "one that is not is frozen then, if it GROWS by more than 0")
    static void freezesNotByNothing() {
        hour(one(0, 0, 5), "...#...#...#", "...#...#...#");
        hour(one(0, 0, 6), "...#...#...#", "...#...#...#");
    }

    @Edge(promise = 13, says = "and is CELL 0 or one beside it is frozen")
    static void cellZeroFreezesAlone() {
        hour(one(0, 0, 0), "............", "#...........");
        hour(one(0, 0, 0), "......#.....", "#....###....");
    }

    @Edge(promise = 13, says = "and is CELL 0 or one beside it is frozen")
    static void othersFreezeBesideFrozenOnesAlone() {
        hour(one(0, 0, 0, "glow 50 c=0"), "............", "............");
        hour(one(0, 0, 0, "glow 50 c=0"), "...........#", "..........##");
        hour(one(0, 0, 0, "glow 50 c=0"), "#...........", ".#..........");
        hour(one(0, 0, 0, "glow 50 c=0"), "..#.#......#", ".#####....##");
    }

    @Edge(promise = 13, says = {"and is CELL 0 or one beside it is frozen", "which lie in a row"})
    static void endsAreNotBesideOneAnother() {
        hour(one(0, 0, 0), "#...........", "##..........");
        hour(one(0, 0, 0, "glow 50 c=0"), "...........#", "..........##");
        hour(one(3, 0, 5), "#..........#", "##........##");
    }

    @Edge(promise = 13, says = "An HOUR goes, by how all is ahead of it")
    static void allAtOnceWhenOnesFreeze() {
        FrostBids x = one(0, 0, 0);
        for (int hour = 1; hour <= 13; hour++) {
            x.pass(1);
            due("ICE at HOUR " + hour, x.of(0, 3), (1 << Math.min(12, hour)) - 1);
        }
    }

    @Edge(promise = 13, says = "An HOUR goes, by how all is ahead of it")
    static void allAtOnceWhenOnesMelt() {
        hour(one(0, 0, 0, "glow 50 n>0"), "..##..#.....", "#.....#.....");
        hour(one(0, 0, 0, "glow 50 c<3&!c=2"), ".##.........", "..##........");
        hour(one(3, 0, 9, "glow 8 c=0;glow 7 c=1"), "##..........", ".#..........");
        hour(one(3, 0, 9, "glow 7 c=0;glow 8 c=1"), "##..........", "#...........");
    }

    @Edge(promise = 13, says = ": on each that is not SHUT")
    static void shutOnesStay() {
        FrostBids x = six();
        x.cold(20);
        x.set(0, 1, ice("....#"));
        x.set(1, 1, ice("....#"));
        x.shut(0, true);
        x.pass(1);
        due("of(0, 3)", x.of(0, 3), ice("....#"));
        due("of(1, 3)", x.of(1, 3), ice("#..###"));
        read(x, "glow 90 c>0");
        x.pass(1);
        due("of(0, 3)", x.of(0, 3), ice("....#"));
        due("of(1, 3)", x.of(1, 3), ice("#"));
        x.shut(0, false);
        x.pass(1);
        due("of(0, 3)", x.of(0, 3), ice("#"));
    }

    @Edge(promise = 13, says = "HOUR is 1 more.")
    static void hoursGoWhenAllIsShut() {
        FrostBids x = one(0, 0, 0);
        x.shut(0, true);
        due("pass(1)", x.pass(1), 1);
        due("pass(2)", x.pass(2), 3);
        due("told(0)", x.told(0), 3);
        due("pass(4) without panes", new FrostBids().pass(4), 4);
    }

    @Edge(promise = 13, says = "HOUR is 1 more.")
    static void eachHourGoesByItsNumber() {
        FrostBids x = one(0, 0, 0, "glow 50 h=3;glow 5 h=5|h=6");
        x.pass(3);
        due("of(0, 3)", x.of(0, 3), ice("###"));
        x.pass(1);
        due("of(0, 3)", x.of(0, 3), 0);
        x.pass(3);
        due("of(0, 3)", x.of(0, 3), ice("#"));
        FrostBids y = one(1, 9, 0);
        y.pass(8);
        due("of(0, 3) of a KITCHEN", y.of(0, 3), ice("######"));
    }

    @Edge(promise = 13, says = "n HOURS (0 .. 60) go: HOUR.")
    static void noHourGoes() {
        FrostBids x = one(0, 0, 0);
        due("pass(0)", x.pass(0), 0);
        due("of(0, 3)", x.of(0, 3), 0);
        x.pass(5);
        due("pass(0)", x.pass(0), 5);
        due("of(0, 3)", x.of(0, 3), ice("#####"));
    }

    @Edge(promise = 13, says = "n HOURS (0 .. 60) go: HOUR.")
    static void mostHoursGo() {
        FrostBids x = one(0, 0, 4, "glow 4 !h=9&c>0");
        due("pass(60)", x.pass(60), 60);
        due("of(0, 3)", x.of(0, 3), ice("#######"));
    }

    @Edge(promise = 13, says = "BAD;")
    static void hoursBesideTheirEdges() {
        FrostBids x = one(0, 0, 0);
        refused("pass", x::pass, BAD, -1, 61, 62, Integer.MIN_VALUE, Integer.MAX_VALUE);
        due("told(0)", x.told(0), 0);
        due("of(0, 3)", x.of(0, 3), 0);
    }

    /** An object with a pane and a HOUR of 9939 + n. */
    private static FrostBids late(int n) {
        FrostBids x = one(0, 0, 9);
        for (int i = 0; i < 165; i++) {
            x.pass(60);
        }
        x.pass(39);
        x.pass(n);
        due("told(0)", x.told(0), 9939 + n);
        return x;
    }

    @Edge(promise = 13, says = "STATE: it would be above 9999.")
    static void lastHour() {
        due("pass(60)", late(0).pass(60), 9999);
        due("pass(59)", late(1).pass(59), 9999);
        due("pass(1)", late(59).pass(1), 9999);
        due("pass(0)", late(60).pass(0), 9999);
    }

    @Edge(promise = 13, says = "STATE: it would be above 9999.")
    static void aboveTheLastHour() {
        FrostBids x = late(1);
        x.set(0, 0, 0);
        due("pass(60)", x.pass(60), STATE);
        due("told(0)", x.told(0), 9940);
        due("of(0, 3)", x.of(0, 3), 0);
        due("pass(1)", late(60).pass(1), STATE);
        due("pass(60)", late(60).pass(60), STATE);
    }

    @Edge(promise = 13, says = "BAD; STATE: it would be above 9999.")
    static void firstOfSeveralRefusalsOfPass() {
        FrostBids x = late(60);
        refused("pass", x::pass, BAD, -1, 61, Integer.MIN_VALUE, Integer.MAX_VALUE);
    }
}
