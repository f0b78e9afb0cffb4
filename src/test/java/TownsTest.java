/** Promises 1 to 3: a new object, THE TAPE, TOWNS; which texts are TOWNS, and where else the FAULT is. */
public final class TownsTest extends Edges {
    /** A TOWN of just 100 bytes. */
    private static final String LONGEST = "fern 1;fern 1;fern 1;fern 1;fern 1;fern 1;fern 1;fern 7;tower 9;"
        + "chill 10 p=0&p<1&p<2&p<3&p<4&p<5&c=7";
    private static final String TEN = "fern 1;fern 1;fern 1;fern 1;fern 1;fern 1;fern 1;fern 1;fern 1;fern 4";

    public static void main(String[] args) {
        run(TownsTest.class);
    }

    /** The text is a TOWN. */
    private static void good(String text) {
        due("town() of " + text, read(new FrostBids(), text), 0);
    }

    /** The text is no TOWN, and its FAULT is at that place. */
    private static void fault(String text, int place) {
        due("town() of " + text, read(new FrostBids(), text), -10 - place);
    }

    /** Behind the head a TOWN can go on with one of the signs, and with no other of all 128. */
    private static void goesOnWith(String head, String signs) {
        for (int sign = 0; sign < 128; sign++) {
            FrostBids x = new FrostBids();
            feed(x, head);
            x.feed(sign);
            int got = x.town();
            boolean isFault = got == -10 - head.length();
            boolean isAnswer = isFault || got == -11 - head.length() || got == 0;
            due("'" + head + "' is read as far as sign " + sign, isAnswer ? 1 : 0, 1);
            due("'" + head + "' can go on with sign " + sign, isFault ? 0 : 1, signs.indexOf(sign) >= 0 ? 1 : 0);
        }
    }

    // ---- promise 1

    @Edge(promise = 1, says = "No PANES")
    static void newWithoutPanes() {
        FrostBids x = new FrostBids();
        due("count(0)", x.count(0), 0);
        due("of(0, 0)", x.of(0, 0), NONE);
        due("told(5)", x.told(5), 0);
        due("told(6)", x.told(6), 0);
    }

    @Edge(promise = 1, says = {"no TOWN", "without one there are no CLAUSES"})
    static void newWithoutTown() {
        FrostBids x = one(0, 0, 0);
        due("count(1)", x.count(1), 0);
        due("grows(0, 0)", x.grows(0, 0), 5);
    }

    @Edge(promise = 1, says = {"FERN (3 without)", "TOWER (2 without)"})
    static void newFernAndTower() {
        FrostBids x = new FrostBids();
        due("told(2)", x.told(2), 3);
        due("told(3)", x.told(3), 2);
    }

    @Edge(promise = 1, says = "COLD (0 .. 20; 5 at first)")
    static void newCold() {
        due("told(1)", new FrostBids().told(1), 5);
    }

    @Edge(promise = 1, says = "PAID (0 .. 999999; 0 at first)")
    static void newPaid() {
        due("told(4)", new FrostBids().told(4), 0);
    }

    @Edge(promise = 1, says = "HOUR: 0 at first")
    static void newHour() {
        due("told(0)", new FrostBids().told(0), 0);
    }

    @Edge(promise = 1, says = {"SEEN told by hand", "PLAN told by hand", "BOOK told by hand"})
    static void newWithNothingTold() {
        FrostBids x = new FrostBids();
        for (int what = 2; what <= 5; what++) {
            due("count(" + what + ")", x.count(what), 0);
        }
        due("colds(0)", x.colds(0), 21);
        due("looked()", x.looked(), NOT_FOUND);
    }

    @Edge(promise = 1, says = {"THE IMAGE: all that there is", "THE TRACE: the numbers of the bodies that ran"})
    static void newWithoutImageAndTrace() {
        FrostBids x = new FrostBids();
        due("undo()", x.undo(), STATE);
        due("trace(0)", x.trace(0), NONE);
        due("count(6)", x.count(6), 0);
    }

    @Edge(promise = 1, says = "No PANES, no TOWN.")
    static void newBesideAnother() {
        FrostBids other = six();
        read(other, "fern 9;chill 9 p=0");
        feed(other, "tow");
        other.pass(3);
        other.cold(9);
        other.breathe(1);
        other.image();
        other.act(0, 0, 0);
        FrostBids x = new FrostBids();
        int[] told = {0, 5, 3, 2, 0, 0, 0};
        for (int what = 0; what <= 6; what++) {
            due("told(" + what + ")", x.told(what), told[what]);
            due("count(" + what + ")", x.count(what), 0);
        }
        x.pane(0, 0, 0);
        due("the other's of(0, 0)", other.of(0, 0), 1);
    }

    // ---- promise 2

    @Edge(promise = 2, says = "A sign (0 .. 127)")
    static void leastSign() {
        due("feed(0)", new FrostBids().feed(0), 1);
    }

    @Edge(promise = 2, says = "A sign (0 .. 127)")
    static void greatestSign() {
        due("feed(127)", new FrostBids().feed(127), 1);
    }

    @Edge(promise = 2, says = "comes behind THE TAPE's")
    static void signsComeBehind() {
        FrostBids x = new FrostBids();
        feed(x, "fern 4");
        x.feed('7');
        due("town()", x.town(), 0);
        due("told(2)", x.told(2), 47);
    }

    @Edge(promise = 2, says = "how many it has")
    static void howManyTheTapeHas() {
        FrostBids x = new FrostBids();
        for (int i = 1; i <= 100; i++) {
            due("feed('a')", x.feed('a'), i);
        }
    }

    @Edge(promise = 2, says = {"BAD", "BAD a number is not as told"})
    static void signBelowTheLeast() {
        FrostBids x = new FrostBids();
        refused("feed", x::feed, BAD, -1, -2, -128, Integer.MIN_VALUE);
        due("count(5)", x.count(5), 0);
    }

    @Edge(promise = 2, says = "BAD")
    static void signAboveTheGreatest() {
        FrostBids x = new FrostBids();
        refused("feed", x::feed, BAD, 128, 129, 256 + 'f', 65536 + 'f', Integer.MAX_VALUE);
        due("count(5)", x.count(5), 0);
    }

    @Edge(promise = 2, says = {"FULL.", "(bytes, 100 at most)", "FULL. They change nothing."})
    static void hundredAndFirstSign() {
        FrostBids x = new FrostBids();
        feed(x, LONGEST.substring(0, 99));
        due("the 100th", x.feed(LONGEST.charAt(99)), 100);
        due("the 101st", x.feed('a'), FULL);
        due("count(5)", x.count(5), 100);
        due("town()", x.town(), 0);
    }

    @Edge(promise = 2, says = {"BAD; FULL.", "REFUSALS, of several the first one told"})
    static void badSignBehindAFullTape() {
        FrostBids x = new FrostBids();
        feed(x, LONGEST);
        refused("feed", x::feed, BAD, -1, 128);
        due("feed(0)", x.feed(0), FULL);
    }

    // ---- promise 3: what town() does

    @Edge(promise = 3, says = {"is a TOWN, and holds: its number", "TOWNS are numbered from 0 on"})
    static void numbersOfTowns() {
        FrostBids x = new FrostBids();
        for (int i = 0; i < 5; i++) {
            due("town()", read(x, "fern " + (i + 5)), i);
            due("told(2)", x.told(2), i + 5);
            due("count(1)", x.count(1), i + 1);
        }
    }

    @Edge(promise = 3, says = "THE TAPE, which is empty then")
    static void tapeIsEmptyBehindATown() {
        FrostBids x = new FrostBids();
        due("town()", read(x, "fern 8"), 0);
        due("count(5)", x.count(5), 0);
        due("feed('f')", x.feed('f'), 1);
        due("town()", read(x, "ern 7"), 1);
        due("told(2)", x.told(2), 7);
    }

    @Edge(promise = 3, says = "(by a FAULT, too)")
    static void tapeIsEmptyBehindAFault() {
        FrostBids x = new FrostBids();
        due("town()", read(x, "fern 8 and more"), -16);
        due("count(5)", x.count(5), 0);
        due("feed('t')", x.feed('t'), 1);
        due("town()", read(x, "ower 6"), 0);
        due("told(3)", x.told(3), 6);
    }

    @Edge(promise = 3, says = "-10 less the FAULT")
    static void leastFault() {
        fault("x", 0);
    }

    @Edge(promise = 3, says = {"-10 less the FAULT", "(the size, if it ends too early)"})
    static void greatestFault() {
        String text = LONGEST.substring(0, 97) + "!c=";
        due("bytes", text.length(), 100);
        fault(text, 100);
    }

    @Edge(promise = 3, says = "(the one that held holds)")
    static void fernAndTowerByAFault() {
        FrostBids x = new FrostBids();
        read(x, "fern 7;tower 8");
        due("town()", read(x, "fern 5;tower 1;"), -25);
        due("told(2)", x.told(2), 7);
        due("told(3)", x.told(3), 8);
    }

    @Edge(promise = 3, says = "(the one that held holds)")
    static void clausesByAFault() {
        FrostBids x = one(0, 0, 0, "chill 3 c=0");
        due("town()", read(x, "chill 9 c<2;chill 9 c<2;x"), -34);
        due("grows(0, 0)", x.grows(0, 0), 8);
        due("grows(0, 1)", x.grows(0, 1), 5);
    }

    @Edge(promise = 3, says = "(the one that held holds)")
    static void noTownByAFault() {
        FrostBids x = one(0, 0, 0);
        due("town()", read(x, "fern 9;tower 9;chill 9 c=0;"), -37);
        due("count(1)", x.count(1), 0);
        due("told(2)", x.told(2), 3);
        due("told(3)", x.told(3), 2);
        due("grows(0, 0)", x.grows(0, 0), 5);
    }

    @Edge(promise = 3, says = "is a TOWN, and holds: its number")
    static void numberBehindAFault() {
        FrostBids x = one(0, 0, 0, "fern 1");
        read(x, "chill 9 c=0;tower 9;fern 9;");
        due("town()", read(x, "fern 2"), 1);
        due("told(2)", x.told(2), 2);
        due("told(3)", x.told(3), 2);
        due("grows(0, 0)", x.grows(0, 0), 5);
    }

    @Edge(promise = 3, says = "is a TOWN, and holds: its number")
    static void nothingIsLeftOfAFault() {
        FrostBids x = one(0, 0, 0);
        for (int i = 0; i < 4; i++) {
            String clauses = "fern 9;tower 9;chill 9 c=0&c<9|!c>3;chill 7 c=2|c=3&(c=0|c>1);glow 3 !(c<7&!c=0);";
            due("town()", read(x, clauses + "x"), -10 - clauses.length());
        }
        due("town()", read(x, "chill 4 c=1|c=5&h=0;glow 2 !c<7"), 0);
        int[] want = {5, 9, 5, 5, 5, 9, 5, 3, 3, 3, 3, 3};
        for (int cell = 0; cell < 12; cell++) {
            due("grows(0, " + cell + ")", x.grows(0, cell), want[cell]);
        }
        due("told(2)", x.told(2), 3);
        due("told(3)", x.told(3), 2);
    }

    /** An object with as many towns as there can be. */
    private static FrostBids fullOfTowns() {
        FrostBids x = new FrostBids();
        for (int i = 1; i <= 5; i++) {
            read(x, "fern " + i);
        }
        return x;
    }

    @Edge(promise = 3, says = {"FULL (ahead of all", ", 5 at most; the newest one holds"})
    static void sixthTown() {
        FrostBids x = fullOfTowns();
        due("town()", read(x, "fern 9"), FULL);
        due("count(1)", x.count(1), 5);
        due("told(2)", x.told(2), 5);
    }

    @Edge(promise = 3, says = "(ahead of all")
    static void sixthTownWithAFault() {
        due("town()", read(fullOfTowns(), "fern x"), FULL);
    }

    @Edge(promise = 3, says = "(ahead of all")
    static void sixthTownOfAnEmptyTape() {
        due("town()", fullOfTowns().town(), FULL);
    }

    @Edge(promise = 3, says = "THE TAPE stays)")
    static void tapeStaysByFull() {
        FrostBids x = fullOfTowns();
        feed(x, "fern 9");
        x.town();
        due("count(5)", x.count(5), 6);
        due("feed(';')", x.feed(';'), 7);
        x.town();
        due("count(5)", x.count(5), 7);
    }

    @Edge(promise = 3, says = "; the newest one holds")
    static void newestTownAloneHolds() {
        FrostBids x = one(0, 0, 0, "fern 9;tower 8;chill 5 c=0");
        due("town()", read(x, "glow 1 c=1"), 1);
        due("told(2)", x.told(2), 3);
        due("told(3)", x.told(3), 2);
        due("grows(0, 0)", x.grows(0, 0), 5);
        due("grows(0, 1)", x.grows(0, 1), 4);
    }

    @Edge(promise = 3, says = ": the last n of fern, of tower")
    static void lastFernAndTower() {
        FrostBids x = new FrostBids();
        due("town()", read(x, "fern 1;tower 50;fern 99;tower 2;fern 0;tower 4;glow 7 c=0"), 0);
        due("told(2)", x.told(2), 0);
        due("told(3)", x.told(3), 4);
    }

    @Edge(promise = 3, says = {"FERN (3 without)", "TOWER (2 without)"})
    static void townWithoutOneOfThem() {
        FrostBids x = new FrostBids();
        read(x, "fern 8");
        due("told(3)", x.told(3), 2);
        read(x, "tower 8");
        due("told(2)", x.told(2), 3);
    }

    // ---- promise 3: which texts are TOWNS

    @Edge(promise = 3, says = "(the size, if it ends too early)")
    static void emptyTape() {
        due("town()", new FrostBids().town(), -10);
    }

    @Edge(promise = 3, says = "A TOWN is read from THE TAPE (bytes, 100 at most)")
    static void longestTown() {
        due("bytes", LONGEST.length(), 100);
        FrostBids x = one(0, 0, 0);
        due("town()", read(x, LONGEST), 0);
        due("told(3)", x.told(3), 9);
        due("grows(0, 7)", x.grows(0, 7), 15);
        due("grows(0, 6)", x.grows(0, 6), 5);
    }

    @Edge(promise = 3, says = "CLAUSES, 10 at most")
    static void tenClauses() {
        FrostBids x = new FrostBids();
        due("town()", read(x, TEN), 0);
        due("told(2)", x.told(2), 4);
    }

    @Edge(promise = 3, says = "CLAUSES, 10 at most")
    static void tenClausesThatAllCount() {
        String nine = "glow 1 c=9;fern 1;glow 2 c=9;fern 1;glow 3 c=9;fern 1;glow 4 c=9;fern 1;glow 5 c=9;";
        FrostBids x = one(0, 0, 0, nine + "glow 6 c=9");
        due("grows(0, 9)", x.grows(0, 9), 5 - 21);
    }

    @Edge(promise = 3, says = "CLAUSES, 10 at most")
    static void eleventhClause() {
        goesOnWith(TEN, "0123456789");
        fault(TEN + ";", TEN.length());
        fault(TEN + ";fern 1", TEN.length());
    }

    @Edge(promise = 3, says = ", with ; between")
    static void clausesAreParted() {
        good("fern 1;tower 1;chill 1 p=0;glow 1 p=0;fern 2");
        goesOnWith("fern 10", ";");
        goesOnWith("tower 10", ";");
    }

    @Edge(promise = 3, says = ", with ; between")
    static void nothingButAClauseBehindAPart() {
        goesOnWith("fern 1;", "ftcg");
        fault("fern 1;;fern 1", 7);
        fault("fern 1; fern 1", 7);
    }

    @Edge(promise = 3, says = {", with ; between", "(the size, if it ends too early)"})
    static void partAtTheEnd() {
        fault("fern 1;", 7);
        fault("glow 1 p=0;", 11);
    }

    @Edge(promise = 3, says = ", with ; between")
    static void partAtTheBegin() {
        fault(";fern 1", 0);
        fault(";", 0);
    }

    @Edge(promise = 3, says = "fern n; tower n; chill n E; glow n E")
    static void firstSigns() {
        goesOnWith("", "ftcg");
    }

    @Edge(promise = 3, says = "fern n; tower n; chill n E; glow n E")
    static void signsOfWords() {
        for (String word : new String[] {"fern ", "tower ", "chill ", "glow "}) {
            for (int i = 1; i < word.length(); i++) {
                goesOnWith(word.substring(0, i), word.substring(i, i + 1));
            }
        }
    }

    @Edge(promise = 3, says = "fern n; tower n; chill n E; glow n E")
    static void fernAndTowerTakeNoE() {
        fault("fern 1 p=0", 6);
        fault("tower 1 ", 7);
    }

    @Edge(promise = 3, says = "fern n; tower n; chill n E; glow n E")
    static void chillAndGlowTakeAnE() {
        fault("chill 1", 7);
        fault("glow 1 ", 7);
        fault("chill 1;fern 1", 7);
        fault("glow 1 ;fern 1", 7);
    }

    @Edge(promise = 3, says = "(the size, if it ends too early)")
    static void eachEndThatIsTooEarly() {
        String text = "chill 10 !(p=0&k<3|c>5);tower 2;glow 1 h=5";
        String tooEarly = "chill 10 !(p=0&k<3|c>5);tower 2;glow 1 h=";
        for (int size = 0; size <= tooEarly.length(); size++) {
            String head = text.substring(0, size);
            boolean isTown = size == 23 || size == 31;
            due("town() of " + head, read(new FrostBids(), head), isTown ? 0 : -10 - size);
        }
    }

    @Edge(promise = 3, says = "FAULT: the place of the first byte with which no TOWN can go on")
    static void firstOfSeveralFaults() {
        fault("fern 1;glow 1 p=x;;tower", 16);
        fault("fern 1\0x", 6);
        fault("fe7n x", 2);
    }

    @Edge(promise = 3, says = "(one blank ahead of each part behind the word")
    static void oneBlank() {
        goesOnWith("fern ", "0123456789");
        goesOnWith("chill 10", " ");
        goesOnWith("glow 0 ", "pkcnwh!(");
        fault("fern  1", 5);
        fault("glow 1  p=0", 7);
        fault("fern\t1", 4);
    }

    @Edge(promise = 3, says = "(one blank ahead of each part behind the word")
    static void noBlankElsewhere() {
        fault(" fern 1", 0);
        fault("fern 1 ", 6);
        fault("glow 1 p =0", 8);
        fault("glow 1 p= 0", 9);
        fault("glow 1 p=0 &k=0", 10);
        fault("glow 1 p=0& k=0", 11);
        fault("glow 1 ! p=0", 8);
        fault("glow 1 ( p=0)", 8);
    }

    @Edge(promise = 3, says = "n 1 or 2 digits")
    static void leastAndGreatestNumber() {
        FrostBids x = new FrostBids();
        read(x, "fern 0;tower 9");
        due("told(2)", x.told(2), 0);
        due("told(3)", x.told(3), 9);
        read(x, "fern 10;tower 99");
        due("told(2)", x.told(2), 10);
        due("told(3)", x.told(3), 99);
    }

    @Edge(promise = 3, says = "n 1 or 2 digits")
    static void thirdDigit() {
        fault("fern 100", 7);
        fault("tower 999", 8);
        fault("glow 123 p=0", 7);
        fault("glow 1 p=100", 11);
    }

    @Edge(promise = 3, says = "n 1 or 2 digits")
    static void noDigit() {
        fault("fern ;", 5);
        fault("fern -1", 5);
        fault("fern +1", 5);
        fault("glow  p=0", 5);
        fault("glow 1 p=;", 9);
    }

    @Edge(promise = 3, says = "no 0 ahead of another)")
    static void zeroAheadOfAnother() {
        goesOnWith("fern 0", ";");
        fault("fern 00", 6);
        fault("fern 01", 6);
        fault("chill 05 p=0", 7);
        fault("glow 1 p=07", 10);
        good("fern 10;glow 20 p=30");
    }

    @Edge(promise = 3, says = {"E: T, or T|E", "T: F, or F&T"})
    static void termsOfAnE() {
        good("glow 1 p=0|p=1|p=2|p=3");
        good("glow 1 p=0&p=1&p=2&p=3");
        good("glow 1 p=0&p=1|p=2|p=3&p=4");
        goesOnWith("glow 1 p=10", "&|;");
        goesOnWith("glow 1 p=0|", "pkcnwh!(");
        goesOnWith("glow 1 p=0&", "pkcnwh!(");
    }

    @Edge(promise = 3, says = {"E: T, or T|E", "T: F, or F&T"})
    static void termsThatAreNone() {
        fault("glow 1 |p=0", 7);
        fault("glow 1 &p=0", 7);
        fault("glow 1 p=0||p=0", 11);
        fault("glow 1 p=0&&p=0", 11);
        fault("glow 1 p=0|&p=0", 11);
        fault("glow 1 p=0|;fern 1", 11);
        fault("glow 1 p=0|", 11);
        fault("glow 1 p=0&", 11);
    }

    @Edge(promise = 3, says = "F: !F, (E), or a TEST")
    static void notsAndBrackets() {
        good("glow 1 !p=0");
        good("glow 1 (p=0)");
        good("glow 1 !(p=0|p=1&!p=2)&(p=3)");
        goesOnWith("glow 1 !", "pkcnwh!(");
        goesOnWith("glow 1 (", "pkcnwh!(");
        goesOnWith("glow 1 (p=10", "&|)");
        goesOnWith("glow 1 (p=0)", "&|;");
        goesOnWith("glow 1 !p=10", "&|;");
    }

    @Edge(promise = 3, says = "F: !F, (E), or a TEST")
    static void bracketsThatAreNone() {
        fault("glow 1 ()", 8);
        fault("glow 1 p=0)", 10);
        fault("glow 1 (p=0))", 12);
        fault("glow 1 (p=0;fern 1)", 11);
        fault("glow 1 (p=0", 11);
        fault("glow 1 p!=0", 8);
        fault("glow 1 (p=0)!", 12);
        fault("glow 1 (p=0)(p=0)", 12);
    }

    @Edge(promise = 3, says = {"p or k or c or n or w or h", ", one of < = >", ", a number likewise"})
    static void testsOfAllLetters() {
        for (char letter : "pkcnwh".toCharArray()) {
            goesOnWith("glow 1 " + letter, "<=>");
            goesOnWith("glow 1 " + letter + "<", "0123456789");
            goesOnWith("glow 1 " + letter + "=", "0123456789");
            goesOnWith("glow 1 " + letter + ">", "0123456789");
            goesOnWith("glow 1 " + letter + "=0", "&|;");
            goesOnWith("glow 1 " + letter + "=9", "0123456789&|;");
            goesOnWith("glow 1 " + letter + "=99", "&|;");
        }
    }

    @Edge(promise = 3, says = "At most 5 of ! and ( are open")
    static void fiveOpen() {
        good("glow 1 !!!!!p=0");
        good("glow 1 (((((p=0)))))");
        good("glow 1 !(!(!p=0))");
        good("glow 1 (!(!(p=0)))");
    }

    @Edge(promise = 3, says = "At most 5 of ! and ( are open")
    static void sixOpen() {
        goesOnWith("glow 1 !!!!!", "pkcnwh");
        goesOnWith("glow 1 (((((", "pkcnwh");
        goesOnWith("glow 1 (!(!(", "pkcnwh");
        fault("glow 1 !!!!!!p=0", 12);
        fault("glow 1 ((((((p=0))))))", 12);
        fault("glow 1 !(!(!(p=0)))", 12);
        fault("glow 1 (p=0|(((((p=0))))))", 16);
    }

    @Edge(promise = 3, says = "(a ( till its )")
    static void bracketsAreOpenTillTheyEnd() {
        good("glow 1 (p=0)&(p=0)&(p=0)&(p=0)&(p=0)&(p=0)");
        good("glow 1 (((((p=0)))))|(((((p=0)))))");
        good("glow 1 ((((p=0)))&((((p=0)))))");
        good("glow 1 ((((p=0))))&(((((p=0)))))");
        fault("glow 1 (p=0&((((p=0))))|(((((p=0))))))", 28);
    }

    @Edge(promise = 3, says = ", a ! till its F ends)")
    static void notsAreOpenTillTheirFEnds() {
        good("glow 1 !p=0&!p=0&!p=0&!p=0&!p=0&!p=0|!p=0");
        good("glow 1 !!!!!p=0&!!!!!p=0|!!!!!p=0");
        good("glow 1 !(((p=0)))&!!!!!p=0");
        good("glow 1 ((((!p=0|!p=0&!p=0))))");
        fault("glow 1 !(((!p=0&!!p=0)))", 17);
        fault("glow 1 !!!!(p=0|!p=0)", 16);
    }
}
