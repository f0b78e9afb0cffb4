/** For each promise of the document: ordinary inputs, the edges that it names, and wrong inputs. */
public final class PromisesTest {
    private static final int NONE = -1, BAD = -2, STATE = -3, FULL = -4, NOT_BY_THEN = -5, OTHER = -6;
    private static final int[] WRONG = {-1, -2, 99, Integer.MAX_VALUE, Integer.MIN_VALUE};
    private static final Dues DUES = new Dues();

    private static void due(String call, long got, long want) {
        DUES.due(call, got, want);
    }

    private static void feed(FrostBids x, String text) {
        for (char sign : text.toCharArray()) {
            x.feed(sign);
        }
    }

    private static int read(FrostBids x, String text) {
        feed(x, text);
        return x.town();
    }

    /** A new object with one pane of that kind, v and warm, and a town (none: ""). */
    private static FrostBids with(int kind, int v, int warm, String town) {
        FrostBids x = new FrostBids();
        x.pane(kind, v, warm);
        if (!town.isEmpty()) {
            due("town " + town, read(x, town), 0);
        }
        return x;
    }

    private static FrostBids full() {
        FrostBids x = new FrostBids();
        for (int i = 0; i < 6; i++) {
            x.pane(i + 1, i, 9 - i);
        }
        return x;
    }

    private static void p1() {
        FrostBids x = new FrostBids();
        int[] told = {0, 5, 3, 2, 0, 0, 0, NONE};
        for (int i = 0; i < told.length; i++) {
            due("1 told(" + i + ")", x.told(i), told[i]);
        }
        for (int i = 0; i <= 6; i++) {
            due("1 count(" + i + ")", x.count(i), 0);
        }
        due("1 of", x.of(0, 0), NONE);
        due("1 undo", x.undo(), STATE);
        due("1 looked", x.looked(), NOT_BY_THEN);
    }

    private static void p2() {
        FrostBids x = new FrostBids();
        due("2 feed(0)", x.feed(0), 1);
        due("2 feed(127)", x.feed(127), 2);
        due("2 feed(-1)", x.feed(-1), BAD);
        due("2 feed(128)", x.feed(128), BAD);
        due("2 count", x.count(5), 2);
        for (int i = 3; i <= 100; i++) {
            due("2 feed", x.feed('a'), i);
        }
        due("2 full", x.feed('a'), FULL);
        due("2 bad ahead of full", x.feed(128), BAD);
        due("2 count", x.count(5), 100);
        due("2 fault", x.town(), -10);
        due("2 feed again", x.feed('a'), 1);
    }

    private static void fault(String text, int place) {
        FrostBids x = new FrostBids();
        due("3 fault of " + text, read(x, text), -10 - place);
        due("3 tape is empty behind " + text, x.count(5), 0);
        due("3 no town", x.count(1), 0);
        due("3 fern", x.told(2), 3);
        due("3 tower", x.told(3), 2);
    }

    private static void good(String text) {
        FrostBids x = new FrostBids();
        due("3 town " + text, read(x, text), 0);
        due("3 tape is empty behind " + text, x.count(5), 0);
    }

    private static void p3() {
        String[] goods = {"fern 0", "fern 99", "tower 10", "chill 0 p=0", "glow 99 h>99", "chill 1 !!!!!p=1",
            "chill 1 (((((p=1)))))", "glow 1 !(!(!p=1))", "glow 1 !p=1&!k=1|!c<1|(n=2)&(w>10)", "fern 1;fern 2",
            "fern 1;fern 1;fern 1;fern 1;fern 1;fern 1;fern 1;fern 1;fern 1;fern 1",
            "chill 1 !p=1&!p=1&!p=1&!p=1&!p=1&!p=1&!!!!!p=1", "chill 1 (p=1)|(p=1)|((((p=1))))|(((((p=1)))))"};
        for (String text : goods) {
            good(text);
        }
        String[] heads = {"f", "fern", "fern ", "fern 1;", "t", "tower ", "chill", "chill 1", "chill 12", "chill 1 ",
            "glow 1 p", "glow 1 p=", "glow 1 !", "glow 1 (", "glow 1 (p=1", "glow 1 p=1&", "glow 1 p=1|", ""};
        for (String text : heads) {
            fault(text, text.length());
        }
        fault("fermn 1", 3);
        fault("fern  1", 5);
        fault("fern 1 ", 6);
        fault("fern 01", 6);
        fault("fern 00", 6);
        fault("fern 123", 7);
        fault("fern -1", 5);
        fault("fern /", 5);
        fault("fern :", 5);
        fault("fern 1/", 6);
        fault("fern 1:", 6);
        fault("Fern 1", 0);
        fault(";fern 1", 0);
        fault("fern 1;;", 7);
        fault("fern 1; fern 1", 7);
        fault("fern 1;x", 7);
        fault("\0", 0);
        fault("fern 1\0", 6);
        fault("chill 1 q=1", 8);
        fault("chill 1 p!1", 9);
        fault("chill 1 p=x", 10);
        fault("chill 1 p=012", 11);
        fault("chill 1 p=123", 12);
        fault("chill 1 p=1)", 11);
        fault("chill 1 (p=1;", 12);
        fault("chill 1 p=1 &", 11);
        fault("chill 1 ()", 9);
        fault("chill 1 p=1||", 12);
        fault("chill 1;fern 1", 7);
        fault("glow 1  p=1", 7);
        fault("glow 1 !!!!!!p=1", 12);
        fault("glow 1 ((((((p=1", 12);
        fault("glow 1 !(!(!(p=1", 12);
        fault("glow 1 (((((!p=1", 12);
        fault("gl0w", 2);
        fault("fern 1;fern 1;fern 1;fern 1;fern 1;fern 1;fern 1;fern 1;fern 1;fern 1;", 69);
        townsHold();
    }

    private static void townsHold() {
        FrostBids x = new FrostBids();
        due("3 first", read(x, "fern 7;tower 8;fern 9"), 0);
        due("3 fern is the last", x.told(2), 9);
        due("3 a fault", read(x, "fern 5;tower 1;"), -25);
        due("3 the one that held holds", x.told(2), 9);
        due("3 tower too", x.told(3), 8);
        due("3 second", read(x, "tower 4"), 1);
        due("3 fern without", x.told(2), 3);
        due("3 tower", x.told(3), 4);
        due("3 third", read(x, "fern 2"), 2);
        due("3 fourth", read(x, "fern 2"), 3);
        due("3 fifth", read(x, "fern 1"), 4);
        feed(x, "fern 9");
        due("3 full", x.town(), FULL);
        due("3 the tape stays", x.count(5), 6);
        feed(x, "x");
        due("3 full ahead of a fault", x.town(), FULL);
        due("3 the tape stays", x.count(5), 7);
        due("3 fern of the fifth", x.told(2), 1);
        due("3 five", x.count(1), 5);
    }

    private static void p4() {
        FrostBids x = new FrostBids();
        for (int wrong : WRONG) {
            due("4 kind", x.pane(wrong, wrong, 0), NONE);
            due("4 v", x.pane(0, wrong, 0), BAD);
            due("4 warm", x.pane(0, 0, wrong), BAD);
        }
        due("4 kind 7", x.pane(7, 0, 0), NONE);
        due("4 v 10", x.pane(0, 10, 0), BAD);
        due("4 warm 10", x.pane(0, 0, 10), BAD);
        due("4 none came", x.count(0), 0);
        for (int i = 0; i < 6; i++) {
            due("4 pane", x.pane(6 - i, 9 - i, i), i);
        }
        due("4 full", x.pane(0, 0, 0), FULL);
        due("4 bad ahead of full", x.pane(0, 0, 10), BAD);
        due("4 none ahead of full", x.pane(7, 0, 0), NONE);
        due("4 six", x.count(0), 6);
    }

    private static void p5() {
        FrostBids x = full();
        x.set(5, 1, 0b100110111011);
        x.shut(5, true);
        int[] want = {6, 5, 4, 0b100110111011, 1, 4 * 3 + 3 * 2, NONE};
        for (int i = 0; i < want.length; i++) {
            due("5 of(5, " + i + ")", x.of(5, i), want[i]);
        }
        due("5 of(4, 4)", x.of(4, 4), 0);
        for (int wrong : WRONG) {
            due("5 pane", x.of(wrong, 0), NONE);
            due("5 what", x.of(0, wrong), NONE);
        }
        due("5 pane 6", x.of(6, 0), NONE);
        due("5 none frozen", x.of(0, 5), 0);
        x.set(0, 1, 4095);
        due("5 all frozen", x.of(0, 5), 3 + 24);
        x.set(0, 1, 0b010101010101);
        due("5 six runs", x.of(0, 5), 18 + 2);
        x.set(0, 1, 0b100000000000);
        due("5 the last cell", x.of(0, 5), 5);
        x.set(0, 1, 0b111000001100);
        due("5 the longest at the end", x.of(0, 5), 6 + 6);
        read(x, "fern 10;tower 1");
        due("5 by the town", x.of(0, 5), 20 + 3);
    }

    private static void p6() {
        int cold = 12;
        int[][] want = {{9, 9, 9}, {2, 2, 2}, {4, 4, 4}, {11, 9, 13}, {2, 2, 0}, {11, 11, 11}, {15, 7, 14}};
        for (int kind = 0; kind <= 6; kind++) {
            FrostBids x = with(kind, 7, 3, "");
            x.cold(cold);
            x.set(0, 1, 0b1010);
            x.row(0, 0, 8);
            x.row(0, 1, 2);
            x.row(0, 2, 5);
            for (int cell = 0; cell < 3; cell++) {
                due("6 kind " + kind + " at " + cell, x.grows(0, cell), want[kind][cell]);
            }
            x.shut(0, true);
            due("6 shut, kind " + kind, x.grows(0, 1), want[kind][1]);
        }
        growsByHour();
        growsByTests();
        FrostBids x = full();
        for (int wrong : WRONG) {
            due("6 pane", x.grows(wrong, 0), -999999);
            due("6 cell", x.grows(0, wrong), -999999);
        }
        due("6 cell 12", x.grows(0, 12), -999999);
        due("6 cell 11", x.grows(0, 11) > -999999 ? 1 : 0, 1);
    }

    private static void growsByHour() {
        FrostBids x = with(1, 7, 3, "");
        int[] want = {-5, 2, 2, 2, -5, 2};
        for (int i = 0; i < want.length; i++) {
            due("6 kitchen, hour " + i, x.grows(0, 0), want[i]);
            x.pass(1);
        }
        FrostBids y = with(4, 7, 3, "");
        y.pass(1);
        due("6 jail off 4", y.grows(0, 0), 2);
        due("6 jail at 5", y.grows(0, 5), 0);
        due("6 jail at 11", y.grows(0, 11), 0);
        FrostBids z = with(2, 0, 8, "");
        due("6 nursery cuts toward 0", z.grows(0, 0), -1);
        FrostBids t = with(6, 0, 5, "");
        due("6 told without a row", t.grows(0, 0), -4);
        t.row(0, 3, 9);
        due("6 told at 11", t.grows(0, 11), 5);
        due("6 told at 10", t.grows(0, 10), -4);
    }

    private static void holds(String e, int pane, int cell, boolean is) {
        FrostBids x = full();
        x.set(3, 1, 0b000000100111);
        x.pass(37);
        x.set(3, 1, 0b000000100111);
        int without = x.grows(3, cell);
        due("6 town of " + e, read(x, "chill 40 " + e + ";glow 7 " + e), 0);
        int with = x.grows(3, cell);
        due("6 " + e + " at " + cell, with - without, is ? 33 : 0);
    }

    // Pane 3 is a JAIL (4) of v 3, WARM 6, at HOUR 37; cells 0, 1, 2, 5 are frozen.
    private static void growsByTests() {
        holds("p=3", 3, 0, true);
        holds("p=4", 3, 0, false);
        holds("p<4", 3, 0, true);
        holds("p<3", 3, 0, false);
        holds("p>2", 3, 0, true);
        holds("p>3", 3, 0, false);
        holds("k=4", 3, 0, true);
        holds("k=3", 3, 0, false);
        holds("w=6", 3, 0, true);
        holds("w>6", 3, 0, false);
        holds("h=7", 3, 0, true);
        holds("h=37", 3, 0, false);
        holds("c=10", 3, 10, true);
        holds("c>9", 3, 10, true);
        holds("c>10", 3, 10, false);
        holds("c<11", 3, 10, true);
        holds("c<99", 3, 10, true);
        holds("c>0", 3, 0, false);
        holds("n=1", 3, 0, true);
        holds("n=2", 3, 1, true);
        holds("n=1", 3, 3, true);
        holds("n=0", 3, 0, false);
        holds("n=2", 3, 0, false);
        holds("n=2", 3, 4, false);
        holds("n>1", 3, 3, false);
        holds("n=0", 3, 10, true);
        holds("n>0", 3, 4, true);
        holds("n<1", 3, 4, false);
        holds("n<2", 3, 1, false);
        holds("n=3", 3, 1, false);
        holds("n=99", 3, 1, false);
        holds("h<99", 3, 1, true);
        holds("h>9", 3, 1, false);
        holds("!p=3", 3, 0, false);
        holds("!!p=3", 3, 0, true);
        holds("p=3&k=3", 3, 0, false);
        holds("p=3|k=3", 3, 0, true);
        holds("p=1|k=4&w=6", 3, 0, true);
        holds("p=3|k=3&w=9", 3, 0, true);
        holds("(p=3|k=3)&w=9", 3, 0, false);
        holds("!(p=3&w=9)", 3, 0, true);
        holds("!p=3&w=9", 3, 0, false);
        holds("!(p=3&w=9)&!p=1", 3, 0, true);
        holds("p=1&p=3|p=3", 3, 0, true);
        holds("p=3&(p=1|k=4&(w=6|h=1&(c=9|p=3)))", 3, 0, true);
        FrostBids x = with(0, 0, 0, "chill 3 p=0;glow 1 p=0;chill 20 c=1;glow 50 c=2;fern 1;glow 9 p=1");
        due("6 all together", x.grows(0, 0), 7);
        due("6 all together, at 1", x.grows(0, 1), 27);
        due("6 all together, at 2", x.grows(0, 2), -43);
        read(x, "fern 1");
        due("6 the newest town alone holds", x.grows(0, 1), 5);
        read(x, "chill 9 p=1;chill 9 p=0;x");
        due("6 nothing by a fault", x.grows(0, 1), 5);
        read(x, "chill 1 p=0");
        due("6 nothing is left of a fault", x.grows(0, 1), 6);
        read(x, "chill 9 p=0;x");
        read(x, "fern 1");
        due("6 no clause is left of a fault", x.grows(0, 1), 5);
        String ten = "glow 1 p=0;";
        read(x, ten + ten + ten + ten + ten + ten + ten + ten + "chill 1 c=0");
        due("6 nine clauses", x.grows(0, 0), -2);
        String short10 = "glow 1 c>0";
        FrostBids y = with(0, 0, 0, "");
        read(y, "fern 1;fern 1;fern 1;fern 1;" + short10 + ";" + short10 + ";glow 3 c=9;glow 4 c=9;glow 5 c=9;"
            + "glow 6 c=9");
        due("6 ten clauses", y.grows(0, 9), 5 - 20);
    }

    private static void p7() {
        FrostBids x = full();
        due("7 was", x.row(5, 3, 9), 0);
        due("7 was then", x.row(5, 3, 4), 9);
        due("7 another place", x.row(5, 0, 1), 0);
        due("7 pane 6", x.row(6, 0, 0), NONE);
        due("7 k 4", x.row(5, 4, 0), NONE);
        due("7 n 10", x.row(5, 0, 10), BAD);
        due("7 state", x.row(2, 0, 0), STATE);
        due("7 bad ahead of state", x.row(2, 0, 10), BAD);
        due("7 none ahead of bad", x.row(2, 4, 10), NONE);
        for (int wrong : WRONG) {
            due("7 pane", x.row(wrong, 0, 0), NONE);
            due("7 k", x.row(5, wrong, 0), NONE);
            due("7 n", x.row(5, 0, wrong), BAD);
        }
        due("7 nothing changed", x.row(5, 0, 0), 1);
    }

    private static void p8() {
        FrostBids x = full();
        due("8 warm was", x.set(2, 0, 9), 7);
        due("8 ice was", x.set(2, 1, 4095), 0);
        due("8 warm", x.of(2, 2), 9);
        due("8 ice", x.of(2, 3), 4095);
        due("8 warm 10", x.set(2, 0, 10), BAD);
        due("8 ice 4096", x.set(2, 1, 4096), BAD);
        due("8 what 2", x.set(2, 2, 0), NONE);
        due("8 pane 6", x.set(6, 0, 10), NONE);
        for (int wrong : WRONG) {
            due("8 pane", x.set(wrong, 0, 0), NONE);
            due("8 what", x.set(0, wrong, 0), NONE);
            due("8 warm", x.set(0, 0, wrong), BAD);
            due("8 ice", x.set(0, 1, wrong == 99 ? 5000 : wrong), BAD);
        }
        due("8 ice then", x.set(2, 1, 1), 4095);
        due("8 warm then", x.set(2, 0, 0), 9);
    }

    private static void p9() {
        FrostBids x = new FrostBids();
        due("9 was", x.cold(20), 5);
        due("9 was then", x.cold(0), 20);
        due("9 21", x.cold(21), BAD);
        for (int wrong : WRONG) {
            due("9 bad", x.cold(wrong), BAD);
        }
        due("9 told", x.told(1), 0);
    }

    private static void p10() {
        FrostBids x = full();
        due("10 not", x.shut(3, false), 0);
        due("10 shut", x.shut(3, true), 0);
        due("10 again", x.shut(3, true), 1);
        due("10 of", x.of(3, 4), 1);
        due("10 open", x.shut(3, false), 1);
        due("10 of then", x.of(3, 4), 0);
        due("10 pane 6", x.shut(6, true), NONE);
        for (int wrong : WRONG) {
            due("10 pane", x.shut(wrong, true), NONE);
        }
        due("10 none is", x.told(6), 0);
    }

    private static void p11() {
        FrostBids x = full();
        x.set(1, 1, 0b101);
        x.shut(1, true);
        due("11 offer", x.breathe(1), 8);
        due("11 paid", x.told(4), 8);
        due("11 none is frozen", x.of(1, 3), 0);
        due("11 again", x.breathe(1), 0);
        due("11 paid then", x.told(4), 8);
        due("11 pane 6", x.breathe(6), NONE);
        for (int wrong : WRONG) {
            due("11 pane", x.breathe(wrong), NONE);
        }
        read(x, "fern 99;tower 99");
        x.set(0, 1, 4095);
        due("11 by the town", x.breathe(0), 1287);
        due("11 paid behind it", x.told(4), 1295);
        for (int i = 0; i < 775; i++) {
            x.set(0, 1, 4095);
            x.breathe(0);
        }
        due("11 paid nearly all", x.told(4), 1295 + 775 * 1287);
        x.set(0, 1, 4095);
        due("11 the offer as it is", x.breathe(0), 1287);
        due("11 paid is held", x.told(4), 999999);
        x.plan(1, 0);
        x.set(0, 1, 4095);
        due("26 not held when asked", x.done(0), 999999 + 1287);
        due("18 not held when asked", x.breaths(1, -1), 1287);
    }

    private static void p12() {
        FrostBids x = full();
        read(x, "fern 11;tower 12");
        x.set(0, 1, 1);
        x.set(4, 1, 6);
        x.shut(0, true);
        x.shut(5, true);
        x.cold(7);
        x.set(1, 1, 1);
        x.breathe(1);
        x.pass(2);
        x.set(0, 1, 1);
        for (int i = 1; i < 6; i++) {
            x.set(i, 1, i == 4 ? 6 : 0);
        }
        int[] want = {2, 7, 11, 12, 23, 23 + 35, 0b100001};
        for (int i = 0; i < want.length; i++) {
            due("12 told(" + i + ")", x.told(i), want[i]);
        }
        due("12 what 7", x.told(7), NONE);
        for (int wrong : WRONG) {
            due("12 what", x.told(wrong), NONE);
        }
    }

    private static void p13() {
        FrostBids x = with(0, 0, 0, "");
        due("13 no hour", x.pass(0), 0);
        due("13 nothing grows by 0 hours", x.of(0, 3), 0);
        due("13 one", x.pass(1), 1);
        due("13 cell 0", x.of(0, 3), 1);
        due("13 another", x.pass(2), 3);
        due("13 cells 0 .. 2", x.of(0, 3), 7);
        x.set(0, 1, 0b000010000000);
        x.pass(1);
        due("13 beside grows, and cell 0", x.of(0, 3), 0b000111000001);
        x.cold(0);
        x.pass(1);
        due("13 nothing by 0", x.of(0, 3), 0b000111000001);
        x.set(0, 0, 9);
        x.pass(1);
        due("13 nothing melts by -9", x.of(0, 3), 0b000111000001);
        read(x, "glow 1 c=0|c=7;glow 2 c=6");
        x.pass(1);
        due("13 melts by -10 and less", x.of(0, 3), 0b000100000000);
        x.shut(0, true);
        x.cold(20);
        due("13 hours go when shut", x.pass(60), 67);
        due("13 shut stays", x.of(0, 3), 0b000100000000);
        due("13 61", x.pass(61), BAD);
        for (int wrong : WRONG) {
            due("13 bad", x.pass(wrong), BAD);
        }
        hoursEnd();
        aheadOfAll();
    }

    private static void hoursEnd() {
        FrostBids x = with(0, 0, 4, "");
        for (int i = 1; i <= 166; i++) {
            x.pass(60);
        }
        due("13 hour", x.told(0), 9960);
        due("13 state", x.pass(40), STATE);
        due("13 bad ahead of state", x.pass(61), BAD);
        due("13 the last hour", x.pass(39), 9999);
        due("13 not further", x.pass(1), STATE);
        due("13 none", x.pass(0), 9999);
        x.set(0, 1, 0);
        due("14 hours beyond", x.on(5, 10), 31);
        x.set(0, 0, 0);
        read(x, "glow 20 h=0|h=2");
        due("14 hour modulo 10 beyond", x.on(1, 10), 1);
        due("14 then melts", x.on(2, 10), 0);
        due("14 and grows", x.on(3, 10), 1);
        due("17 beyond", x.comes(0, 1), 1);
    }

    private static void aheadOfAll() {
        FrostBids x = with(0, 0, 0, "glow 20 n>0");
        x.set(0, 1, 0b000000000010);
        x.pass(1);
        due("13 by how all is ahead", x.of(0, 3), 0b000000000010);
        x.set(0, 1, 0b000000000110);
        x.pass(1);
        due("13 both melt at once", x.of(0, 3), 0);
        FrostBids y = with(3, 0, 6, "");
        y.set(0, 1, 0b000000000010);
        y.pass(1);
        due("13 a rectory grows beside alone", y.of(0, 3), 0b000000000111);
        y.pass(1);
        due("13 and on", y.of(0, 3), 0b000000001111);
    }

    private static void p14() {
        FrostBids x = full();
        x.cold(10);
        x.shut(1, true);
        int offers = x.told(5);
        due("14 all, 0 hours", x.on(0, 0), offers);
        int[] ice = new int[6];
        for (int p = 0; p < 6; p++) {
            ice[p] = x.on(7, 10 + p);
        }
        int all = x.on(7, 0);
        due("14 changes nothing", x.told(5), offers);
        due("14 hour", x.told(0), 0);
        x.pass(7);
        for (int p = 0; p < 6; p++) {
            due("14 ice of " + p, ice[p], x.of(p, 3));
        }
        due("14 all", all, x.told(5));
        due("14 shut", ice[1], 0);
        due("14 61", x.on(61, 0), BAD);
        due("14 60", x.on(60, 11), 0);
        due("14 what 16", x.on(0, 16), NONE);
        due("14 what 9", x.on(0, 9), NONE);
        due("14 what 1", x.on(0, 1), NONE);
        due("14 none ahead of bad", x.on(61, 16), NONE);
        for (int wrong : WRONG) {
            due("14 what", x.on(0, wrong), NONE);
            due("14 n", x.on(wrong, 0), BAD);
        }
    }

    private static void p15() {
        FrostBids x = with(0, 0, 0, "glow 15 h=3&c=1;fern 9;tower 1");
        due("15 when", x.best(0, 6, 0), 4);
        due("15 how much", x.best(0, 6, 1), 9 * 2 + 2);
        due("15 in fewer hours", x.best(0, 3, 0), 3);
        due("15 in fewer hours, how much", x.best(0, 3, 1), 12);
        due("15 in none", x.best(0, 0, 1), 0);
        x.set(0, 1, 0b010101010101);
        due("15 now", x.best(0, 20, 0), 0);
        due("15 how much now", x.best(0, 20, 1), 55);
        x.shut(0, true);
        due("15 first of several", x.best(0, 20, 0), 0);
        due("15 21", x.best(0, 21, 0), BAD);
        due("15 what 2", x.best(0, 21, 2), NONE);
        due("15 changes nothing", x.told(0), 0);
        for (int wrong : WRONG) {
            due("15 pane", x.best(wrong, 21, 0), NONE);
            due("15 n", x.best(0, wrong, 0), BAD);
            due("15 what", x.best(0, 0, wrong), NONE);
        }
        FrostBids y = with(0, 0, 0, "");
        due("15 grows till all is frozen", y.best(0, 20, 0), 12);
        due("15 all frozen", y.best(0, 20, 1), 27);
        due("15 the last of its hours", y.best(0, 5, 0), 5);
    }

    private static void p16() {
        FrostBids x = with(0, 0, 7, "");
        due("16 first of several", x.heat(0, 3, 0), 0);
        due("16 how much", x.heat(0, 3, 1), 9);
        read(x, "glow 50 w<4;chill 1 w=9");
        due("16 by w", x.heat(0, 3, 0), 4);
        due("16 how much by w", x.heat(0, 3, 1), 9);
        due("16 none grows in 0 hours", x.heat(0, 0, 0), 0);
        due("16 and is 0", x.heat(0, 0, 1), 0);
        x.cold(0);
        read(x, "chill 10 w=9");
        due("16 the last", x.heat(0, 2, 0), 9);
        due("16 warm stays", x.of(0, 2), 7);
        due("16 21", x.heat(0, 21, 0), BAD);
        due("16 20", x.heat(0, 20, 1), 27);
        due("16 what 2", x.heat(0, 21, 2), NONE);
        for (int wrong : WRONG) {
            due("16 pane", x.heat(wrong, 21, 0), NONE);
            due("16 n", x.heat(0, wrong, 0), BAD);
            due("16 what", x.heat(0, 0, wrong), NONE);
        }
    }

    private static void p17() {
        FrostBids x = with(0, 0, 0, "");
        due("17 now", x.comes(0, 0), 0);
        due("17 in 3", x.comes(0, 7), 3);
        due("17 never", x.comes(0, 2), NOT_BY_THEN);
        due("17 bad", x.comes(0, 4096), BAD);
        due("17 none ahead of bad", x.comes(1, 4096), NONE);
        due("17 hour stays", x.told(0), 0);
        for (int wrong : WRONG) {
            due("17 pane", x.comes(wrong, 0), NONE);
            due("17 ice", x.comes(0, wrong == 99 ? 9999 : wrong), BAD);
        }
        FrostBids y = with(0, 0, 5, "chill 1 h=0&c=0;chill 1 h=9&c>0");
        due("17 cell 0 in one", y.comes(0, 1), 1);
        y.pass(1);
        y.set(0, 1, 0);
        due("17 in 10", y.comes(0, 1), 10);
        due("17 in 19", y.comes(0, 3), 19);
        due("17 in 59", y.comes(0, 63), 59);
        y.pass(9);
        y.set(0, 1, 0);
        due("17 just in 60", y.comes(0, 127), 60);
        due("17 not in 70", y.comes(0, 255), NOT_BY_THEN);
    }

    private static void p18() {
        FrostBids x = new FrostBids();
        due("18 without panes", x.breaths(3, -1), 0);
        due("18 none", x.breaths(3, 2), 9);
        x.pane(0, 0, 0);
        x.pane(0, 0, 5);
        x.shut(1, true);
        x.set(1, 1, 0b111);
        due("18 shut too", x.breaths(1, 0), 1);
        due("18 how much", x.breaths(1, -1), 9);
        due("18 the first of several", x.breaths(2, 0), 1);
        due("18 then 0", x.breaths(2, 1), 0);
        due("18 how much in 2", x.breaths(2, -1), 14);
        due("18 in 3", x.breaths(3, -1), 9 + 5 + 5);
        due("18 the row in 3", x.breaths(3, 0) * 100 + x.breaths(3, 1) * 10 + x.breaths(3, 2), 100);
        due("18 fewer", x.breaths(1, 1), NOT_BY_THEN);
        due("18 fewer", x.breaths(2, 2), NOT_BY_THEN);
        due("18 k 3", x.breaths(4, 3), NONE);
        due("18 k -2", x.breaths(1, -2), NONE);
        due("18 n 4", x.breaths(4, 0), BAD);
        due("18 n 0", x.breaths(0, 2), BAD);
        due("18 changes nothing", x.of(1, 3) * 100 + x.told(4) + x.told(0), 700);
        for (int wrong : WRONG) {
            due("18 n", x.breaths(wrong, 0), BAD);
            if (wrong != -1) {
                due("18 k", x.breaths(2, wrong), NONE);
            }
        }
        breathsOfMany();
    }

    private static void breathsOfMany() {
        FrostBids x = full();
        x.cold(0);
        for (int p = 0; p < 6; p++) {
            x.set(p, 1, p == 5 ? 1023 : (1 << p) - 1);
        }
        due("18 the three that pay most", x.breaths(3, -1), 9 + 23 + 15);
        due("18 the church, that grows, at last", x.breaths(3, 0) * 100 + x.breaths(3, 1) * 10 + x.breaths(3, 2), 354);
        x.shut(4, true);
        due("18 in the first order", x.breaths(3, 0) * 100 + x.breaths(3, 1) * 10 + x.breaths(3, 2), 345);
        FrostBids y = with(0, 0, 9, "fern 0;tower 0");
        due("18 nothing to be paid", y.breaths(2, -1), 0);
        due("18 still the first", y.breaths(2, 0) + y.breaths(2, 1), 0);
        FrostBids z = with(0, 0, 0, "glow 50 h=1&n=0");
        z.set(0, 1, 3);
        due("18 now and then", z.breaths(2, -1), 7 + 5);
        z.cold(0);
        read(z, "glow 50 c=1");
        due("18 twice", z.breaths(2, -1), 7);
        due("18 now", z.breaths(2, 0), 0);
        FrostBids w = with(0, 0, 0, "glow 9 c=0");
        w.set(0, 1, 1);
        due("18 waits", w.breaths(2, -1), 7);
        due("18 none ahead of that", w.breaths(2, 0), 9);
        due("18 then", w.breaths(2, 1), 0);
    }

    private static void p19() {
        FrostBids x = full();
        due("19 one", x.see(0, 0, 0), 1);
        due("19 20, 4095", x.see(5, 20, 4095), 2);
        due("19 21", x.see(5, 21, 0), BAD);
        due("19 4096", x.see(5, 0, 4096), BAD);
        due("19 pane 6", x.see(6, 21, 0), NONE);
        due("19 three", x.see(0, 0, 0), 3);
        due("19 four", x.see(0, 0, 0), 4);
        due("19 five", x.see(0, 0, 0), 5);
        due("19 full", x.see(0, 0, 0), FULL);
        due("19 bad ahead of full", x.see(0, 21, 0), BAD);
        due("19 none ahead of all", x.see(-2, 21, 0), NONE);
        for (int wrong : WRONG) {
            due("19 n", x.see(0, wrong, 0), BAD);
            due("19 ice", x.see(0, 0, wrong == 99 ? 4100 : wrong), BAD);
            due("19 pane", x.see(wrong == -1 ? 7 : wrong, 0, 0), NONE);
        }
        due("19 five still", x.count(2), 5);
        due("19 none then", x.see(-1, 99, -7), 0);
        due("19 no more", x.count(2), 0);
        due("19 anew", x.see(1, 0, 0), 1);
    }

    private static void p20() {
        FrostBids x = with(0, 0, 4, "");
        x.pane(0, 0, 9);
        due("20 all", x.colds(0), 21);
        x.see(0, 3, 7);
        due("20 by 5 and more", x.colds(0), 16);
        due("20 the least", x.colds(1), 5);
        x.see(1, 2, 0);
        due("20 not above 9", x.colds(0), 5);
        due("20 the least still", x.colds(1), 5);
        x.see(1, 2, 1);
        due("20 none", x.colds(0), 0);
        due("20 no least", x.colds(1), NOT_BY_THEN);
        due("20 cold stays", x.told(1), 5);
        due("20 what 2", x.colds(2), NONE);
        for (int wrong : WRONG) {
            due("20 what", x.colds(wrong), NONE);
        }
        x.see(-1, 0, 0);
        x.set(1, 0, 0);
        x.see(1, 1, 0);
        due("20 by 0 alone", x.colds(0), 1);
        due("20 0", x.colds(1), 0);
        x.see(-1, 0, 0);
        x.set(0, 0, 9);
        x.see(0, 20, 4095);
        due("20 10 and more", x.colds(1), 10);
        due("20 11", x.colds(0), 11);
    }

    private static void p21() {
        FrostBids x = with(0, 0, 9, "");
        x.pane(0, 0, 4);
        due("21 all", x.warms(0), 1023);
        x.see(0, 2, 3);
        due("21 below 5", x.warms(0), 31);
        x.see(1, 1, 1);
        due("21 the other's own", x.warms(0), 31);
        due("21 not by that one", x.warms(1), 0);
        x.see(-1, 0, 0);
        x.see(1, 1, 1);
        due("21 any but", x.warms(0), 1023);
        x.see(1, 2, 1);
        due("21 none", x.warms(1), 0);
        due("21 pane 2", x.warms(2), NONE);
        for (int wrong : WRONG) {
            due("21 pane", x.warms(wrong), NONE);
        }
        x.see(-1, 0, 0);
        read(x, "chill 50 w=9");
        x.see(0, 1, 1);
        due("21 by w", x.warms(0), 512 + 31);
        due("21 warm stays", x.of(0, 2), 9);
    }

    private static void p22() {
        FrostBids x = with(1, 2, 0, "");
        x.pane(5, 4, 9);
        due("22 all", x.firm(0, 0), 10);
        due("22 from 0", x.firm(0, 1), 0);
        x.see(0, 1, 0);
        due("22 5 and more", x.firm(0, 0), 5);
        due("22 least", x.firm(0, 1), 5);
        x.see(-1, 0, 0);
        x.see(1, 3, 7);
        due("22 a church's", x.firm(1, 0), 7);
        due("22 the least of a church", x.firm(1, 1), 3);
        x.see(1, 3, 6);
        due("22 none", x.firm(1, 0), 0);
        due("22 no least", x.firm(1, 1), NOT_BY_THEN);
        due("22 v stays", x.of(0, 1) * 10 + x.of(1, 1), 24);
        due("22 what 2", x.firm(0, 2), NONE);
        due("22 pane 2", x.firm(2, 0), NONE);
        for (int wrong : WRONG) {
            due("22 pane", x.firm(wrong, 0), NONE);
            due("22 what", x.firm(0, wrong), NONE);
        }
        x.see(-1, 0, 0);
        x.set(0, 0, 0);
        x.see(0, 1, 1);
        due("22 others", x.firm(1, 0), 10);
        due("22 warm is kept", x.firm(0, 0), 5);
        x.set(0, 0, 4);
        due("22 by its warm", x.firm(0, 0), 1);
    }

    private static void p23() {
        FrostBids x = with(0, 0, 6, "");
        due("23 above", x.odds(0, 1, 5, 0), 2);
        due("23 below", x.odds(0, 1, 5, 1), 3);
        due("23 q more", x.odds(0, 1, 6, 0), 0);
        due("23 0 of 1", x.odds(0, 1, 6, 1), 1);
        due("23 q 0", x.odds(0, 60, 0, 0), 1);
        due("23 1 of 1", x.odds(0, 60, 0, 1), 1);
        x.set(0, 0, 4);
        due("23 16", x.odds(0, 60, 27, 0), 16);
        due("23 of 21", x.odds(0, 60, 27, 1), 21);
        due("23 q 999", x.odds(0, 1, 999, 1), 1);
        due("23 cold stays", x.told(1), 5);
        due("23 pane", x.odds(1, 0, 0, 0), FrostBids.NO);
        due("23 n", x.odds(0, 61, 0, 0), FrostBids.NO);
        due("23 q", x.odds(0, 0, 1000, 0), FrostBids.NO);
        due("23 part", x.odds(0, 0, 0, 2), FrostBids.NO);
        for (int wrong : WRONG) {
            due("23 pane", x.odds(wrong, 0, 0, 0), FrostBids.NO);
            due("23 n", x.odds(0, wrong == 99 ? 61 : wrong, 0, 0), FrostBids.NO);
            due("23 q", x.odds(0, 0, wrong == 99 ? 1001 : wrong, 0), FrostBids.NO);
            due("23 part", x.odds(0, 0, 0, wrong), FrostBids.NO);
        }
    }

    private static void p24() {
        FrostBids x = new FrostBids();
        due("24 there are none", x.mean(0), FrostBids.NO);
        due("24 there are none", x.mean(1), FrostBids.NO);
        x.pane(0, 0, 0);
        due("24 0", x.mean(0), 0);
        due("24 of 1", x.mean(1), 1);
        x.set(0, 1, 1);
        due("24 5", x.mean(0), 5);
        x.pane(0, 0, 0);
        due("24 5", x.mean(0), 5);
        due("24 of 2", x.mean(1), 2);
        x.set(1, 1, 3);
        due("24 12 of 2", x.mean(0), 6);
        due("24 of 1", x.mean(1), 1);
        for (int i = 0; i < 4; i++) {
            x.pane(0, 0, 0);
        }
        x.set(2, 1, 15);
        x.set(3, 1, 1);
        due("24 28 of 6", x.mean(0), 14);
        due("24 of 3", x.mean(1), 3);
        due("24 part", x.mean(2), FrostBids.NO);
        for (int wrong : WRONG) {
            due("24 part", x.mean(wrong), FrostBids.NO);
        }
    }

    private static void p25() {
        FrostBids x = with(0, 0, 0, "");
        due("25 an hour", x.plan(0, 99), 1);
        due("25 breath", x.plan(1, 0), 2);
        due("25 shut", x.plan(2, 0), 3);
        due("25 not", x.plan(3, 0), 4);
        due("25 what 4", x.plan(4, 0), NONE);
        due("25 pane", x.plan(1, 1), NONE);
        due("25 pane", x.plan(2, -1), NONE);
        due("25 pane", x.plan(3, 6), NONE);
        for (int i = 5; i <= 8; i++) {
            due("25 more", x.plan(0, -1), i);
        }
        due("25 full", x.plan(0, 0), FULL);
        due("25 none ahead of full", x.plan(1, 1), NONE);
        for (int wrong : WRONG) {
            due("25 pane", x.plan(1, wrong), NONE);
            due("25 what", x.plan(wrong == -1 ? -3 : wrong, 0), NONE);
        }
        due("25 eight", x.count(3), 8);
        due("25 none then", x.plan(-1, 77), 0);
        due("25 no more", x.count(3), 0);
        due("25 nothing is done", x.told(0), 0);
    }

    private static void p26() {
        FrostBids x = with(0, 0, 0, "");
        x.pane(0, 0, 4);
        x.set(0, 1, 1);
        x.breathe(0);
        due("26 paid as it is", x.done(0), 5);
        due("26 offers as they are", x.done(1), 0);
        x.plan(0, 0);
        x.plan(0, 0);
        due("26 two hours", x.done(1), 14);
        x.plan(1, 1);
        due("26 paid", x.done(0), 12);
        due("26 the other's", x.done(1), 7);
        x.plan(2, 0);
        x.plan(0, 0);
        due("26 one is shut", x.done(1), 12);
        x.plan(3, 0);
        x.plan(0, 0);
        due("26 and is not", x.done(1), 16);
        x.plan(1, 0);
        due("26 paid at last", x.done(0), 21);
        due("26 offers at last", x.done(1), 7);
        due("26 changes nothing", x.told(0) + x.told(4) + x.told(6), 5);
        due("26 what", x.done(2), NONE);
        for (int wrong : WRONG) {
            due("26 what", x.done(wrong), NONE);
        }
        x.shut(0, true);
        due("26 shut at first", x.done(0), 12 + 5);
        read(x, "glow 90 h>1");
        due("26 hours go on by the plan", x.done(1), 0);
    }

    private static void p27() {
        FrostBids x = full();
        for (int i = 1; i <= 8; i++) {
            due("27 row", x.book(i % 6, i == 8 ? 4095 : 0), i);
        }
        due("27 full", x.book(0, 0), FULL);
        due("27 bad ahead of full", x.book(0, 4096), BAD);
        due("27 none ahead of bad", x.book(6, 4096), NONE);
        for (int wrong : WRONG) {
            due("27 ice", x.book(0, wrong == 99 ? 4200 : wrong), BAD);
            due("27 pane", x.book(wrong == -1 ? -9 : wrong, 0), NONE);
        }
        due("27 eight", x.count(4), 8);
        due("27 none then", x.book(-1, -1), 0);
        due("27 no more", x.count(4), 0);
        due("27 anew", x.book(5, 0), 1);
    }

    private static void p28() {
        FrostBids x = full();
        due("28 none", x.looked(), NOT_BY_THEN);
        x.book(0, 0);
        x.book(3, 0);
        due("28 all so", x.looked(), NOT_BY_THEN);
        x.book(5, 9);
        x.book(4, 9);
        due("28 the first", x.looked(), 2);
        x.set(5, 1, 9);
        due("28 now the next", x.looked(), 3);
        x.set(4, 1, 9);
        due("28 as all is now", x.looked(), NOT_BY_THEN);
        x.set(0, 1, 1);
        due("28 the first of all", x.looked(), 0);
    }

    private static int act(FrostBids x, int pane, int act, int n, int... bodies) {
        int got = x.act(pane, act, n);
        due("34 bodies that ran", x.count(6), bodies.length);
        for (int i = 0; i < bodies.length; i++) {
            due("30 trace(" + i + ") of act " + act + " of " + pane, x.trace(i), bodies[i]);
        }
        due("30 behind the last", x.trace(bodies.length), NONE);
        due("30 far", x.trace(Integer.MAX_VALUE), NONE);
        due("30 below 0", x.trace(-1), NONE);
        return got;
    }

    /** A pane of that kind as number 3, of v 6. */
    private static FrostBids third(int kind) {
        FrostBids x = new FrostBids();
        for (int i = 0; i < 3; i++) {
            x.pane(0, 1, 0);
        }
        x.pane(kind, 6, 1);
        return x;
    }

    private static void p29and30() {
        due("30 no trace at first", new FrostBids().trace(0), NONE);
        due("29 pane drips", act(third(0), 3, 0, 10, 1), 13);
        due("29 pane creaks", act(third(0), 3, 1, 10, 2, 1), 7);
        due("29 pane shines", act(third(0), 3, 2, 10, 3, 2, 1), 14);
        due("29 kitchen drips", act(third(1), 3, 0, 10, 11, 1), 33);
        due("29 kitchen creaks", act(third(1), 3, 1, 10, 2, 11, 1), 27);
        due("29 kitchen shines", act(third(1), 3, 2, 10, 3, 2, 11, 1), 54);
        due("29 nursery drips", act(third(2), 3, 0, 10, 1), 13);
        due("29 nursery creaks", act(third(2), 3, 1, 10, 21, 2, 1), -7);
        due("29 nursery shines", act(third(2), 3, 2, 10, 3, 21, 2, 1), -14);
        due("29 rectory creaks", act(third(3), 3, 1, 10, 2, 1), 7);
        due("29 rectory shines", act(third(3), 3, 2, 10, 31, 3, 2, 1), 14 ^ 7);
        due("29 jail drips", act(third(4), 3, 0, 10, 11, 1), 33);
        due("29 jail shines", act(third(4), 3, 2, 10, 41, 3, 2, 11, 1, 11, 1), 48 + 9);
        due("29 church drips", act(third(5), 3, 0, 10, 51, 1), 13 ^ 3);
        due("29 church creaks", act(third(5), 3, 1, 10, 21, 2, 51, 1), -(14 - 6));
        due("29 church shines", act(third(5), 3, 2, 10, 3, 21, 2, 51, 1), -16);
        due("29 told creaks", act(third(6), 3, 1, 10, 61, 2, 1), 13);
        due("29 told shines", act(third(6), 3, 2, 10, 31, 3, 61, 2, 1), 26 ^ 7);
        due("29 wraps", act(third(0), 3, 0, Integer.MAX_VALUE, 1), Integer.MIN_VALUE + 2);
        due("29 wraps by 3", act(third(1), 3, 0, Integer.MAX_VALUE, 11, 1), Integer.MAX_VALUE * 3 + 3);
        FrostBids x = third(4);
        for (int wrong : WRONG) {
            x.act(3, 2, 1);
            due("29 no such pane", act(x, wrong, 0, 5), 0);
            x.act(3, 2, 1);
            due("29 no such act", act(x, 3, wrong, 5), 0);
        }
        due("29 no act 3", act(x, 3, 3, 5), 0);
        due("29 no pane 4", act(x, 4, 0, 5), 0);
        x.act(3, 2, 1);
        x.act(0, 0, 1);
        due("30 the latest act's alone", x.count(6), 1);
    }

    private static void p31() {
        int[][] above = {{0}, {0, 1}, {0, 2}, {0, 3}, {0, 1, 4}, {0, 2, 5}, {0, 3, 6}};
        for (int kind = 0; kind <= 6; kind++) {
            FrostBids x = third(kind);
            for (int k = 0; k <= 6; k++) {
                int want = OTHER;
                for (int one : above[kind]) {
                    want = one == k ? 6 : want;
                }
                due("31 kind " + kind + " as " + k, x.as(3, k), want);
            }
            due("31 k 7", x.as(3, 7), NONE);
            due("31 pane 4", x.as(4, 0), NONE);
            for (int wrong : WRONG) {
                due("31 k", x.as(3, wrong), NONE);
                due("31 pane", x.as(wrong, 0), NONE);
            }
        }
    }

    private static void spoil(FrostBids x) {
        x.set(0, 0, 3);
        x.set(5, 1, 77);
        x.row(5, 0, 9);
        x.row(5, 3, 9);
        x.shut(1, false);
        x.shut(2, true);
        x.cold(0);
        x.breathe(0);
        x.pass(9);
        read(x, "fern 50;tower 50");
        feed(x, "more");
        x.see(-1, 0, 0);
        x.see(2, 2, 2);
        x.plan(-1, 0);
        x.plan(3, 3);
        x.book(-1, 0);
        x.book(4, 4);
    }

    private static void p32and33() {
        FrostBids x = new FrostBids();
        due("33 none yet", x.undo(), STATE);
        due("32 no panes", x.image(), 0);
        x.pane(1, 1, 1);
        due("33 no panes", x.undo(), 0);
        due("33 no panes are there", x.count(0), 0);
        x = full();
        read(x, "fern 8");
        feed(x, "to");
        x.set(0, 1, 0b11);
        x.row(5, 0, 6);
        x.shut(1, true);
        x.cold(13);
        x.set(4, 1, 1);
        x.breathe(4);
        x.pass(3);
        x.see(0, 0, x.of(0, 3));
        x.plan(1, 0);
        x.plan(0, 0);
        x.book(1, 0);
        x.book(0, 0);
        long[] want = looks(x);
        due("32 panes", x.image(), 6);
        for (int again = 0; again < 3; again++) {
            spoil(x);
            x.act(0, 1, 1);
            due("33 panes", x.undo(), 6);
            long[] got = looks(x);
            for (int i = 0; i < want.length; i++) {
                due("33 look " + i, got[i], want[i]);
            }
            due("33 the trace stays", x.trace(0), 2);
        }
        due("33 the tape's signs", read(x, "wer 7"), 1);
        fewer();
    }

    private static void fewer() {
        FrostBids x = new FrostBids();
        x.pane(0, 1, 1);
        read(x, "fern 8");
        x.image();
        x.pane(1, 2, 2);
        read(x, "fern 9");
        due("33 one again", x.undo(), 1);
        due("33 one", x.count(0), 1);
        due("33 gone", x.of(1, 0), NONE);
        due("33 the first town holds", x.told(2), 8);
        due("33 another pane there", x.pane(6, 3, 3), 1);
        due("33 its kind", x.of(1, 0), 6);
        due("33 another town", read(x, "tower 7"), 1);
        due("33 fern without", x.told(2), 3);
        x.set(1, 1, 5);
        due("32 a later image", x.image(), 2);
        x.set(1, 1, 0);
        due("33 as that", x.undo(), 2);
        due("33 its ice", x.of(1, 3), 5);
    }

    private static long[] looks(FrostBids x) {
        long[] seen = new long[120];
        int n = 0;
        for (int i = 0; i <= 6; i++) {
            seen[n++] = x.told(i);
            seen[n++] = i == 6 ? 0 : x.count(i);
        }
        for (int p = 0; p < 6; p++) {
            for (int i = 0; i <= 5; i++) {
                seen[n++] = x.of(p, i);
            }
            seen[n++] = x.grows(p, 0);
            seen[n++] = x.grows(p, 3);
            seen[n++] = x.warms(p);
        }
        seen[n++] = x.colds(0);
        seen[n++] = x.done(0);
        seen[n++] = x.done(1);
        seen[n++] = x.looked();
        return seen;
    }

    private static void p34() {
        FrostBids x = full();
        read(x, "fern 1");
        read(x, "fern 1");
        feed(x, "abc");
        for (int i = 0; i < 4; i++) {
            x.see(0, 0, 0);
        }
        for (int i = 0; i < 5; i++) {
            x.plan(0, 0);
        }
        for (int i = 0; i < 7; i++) {
            x.book(0, 0);
        }
        x.act(3, 2, 0);
        int[] want = {6, 2, 4, 5, 7, 3, 7, NONE};
        for (int i = 0; i < want.length; i++) {
            due("34 count(" + i + ")", x.count(i), want[i]);
        }
        for (int wrong : WRONG) {
            due("34 what", x.count(wrong), NONE);
        }
    }

    public static void main(String[] args) {
        p1();
        p2();
        p3();
        p4();
        p5();
        p6();
        p7();
        p8();
        p9();
        p10();
        p11();
        p12();
        p13();
        p14();
        p15();
        p16();
        p17();
        p18();
        p19();
        p20();
        p21();
        p22();
        p23();
        p24();
        p25();
        p26();
        p27();
        p28();
        p29and30();
        p31();
        p32and33();
        p34();
        DUES.end();
    }
}
